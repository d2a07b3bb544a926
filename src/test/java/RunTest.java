/** Promises 5 to 11: look, give, begin, run, output, world, global; and what a text says. */
public final class RunTest {
    private static final int[] NOTHING = {};

    public static void main(String[] args) {
        look();
        give();
        begin();
        turns();
        waits();
        output();
        global();
        stack();
        index();
        halted();
        arithmetic();
        precedence();
        order();
        scopes();
        loops();
        arrays();
        functions();
        mostCalls();
        Due.done();
    }

    private static void look() {
        CompiledHouse x = Due.house("const int k=3;int a[k];byte b[5];int c=7;\nvoid f(int p,byte q[],int r[]){int z;byte y[6];{int w[2];}}int main(){for(int i=0;0;);}");
        int[] due0 = {2, 6};
        for (int what = 0; what < 2; what++) {
            for (int i : new int[] {0, -1, 5, Integer.MAX_VALUE, Integer.MIN_VALUE}) {
                Due.be("look " + what, x.look(what, i), due0[what]);
            }
        }
        int[][] due = {{47, 3, 4 + 1 + 2 + 2 + 1 + 2 + 2, 0}, {105, 0, 5, 1}};
        for (int i = 0; i < 2; i++) {
            for (int what = 2; what < 6; what++) {
                Due.be("look " + what + " of " + i, x.look(what, i), due[i][what - 2]);
            }
        }
        for (int i : new int[] {-1, 2, 40, Integer.MAX_VALUE, Integer.MIN_VALUE}) {
            for (int what = 2; what < 6; what++) {
                Due.be("look " + what + " of " + i, x.look(what, i), -1);
            }
        }
        for (int what : new int[] {-1, 6, 7, Integer.MAX_VALUE, Integer.MIN_VALUE}) {
            Due.be("look " + what, x.look(what, 0), -1);
        }
    }

    private static void give() {
        CompiledHouse x = Due.house("int main(){int s;for(int i=0;i<500;i++)s+=get()*i;put(s);put(get());}");
        int sum = 0;
        for (int n = 1; n <= 500; n++) {
            Due.be("give", x.give(n * 7 - 3), n);
            sum += (n * 7 - 3) * (n - 1);
        }
        Due.be("give beyond 500", x.give(1), -1);
        Due.be("waiting", x.world(3), 500);
        x.begin(100);
        Due.be("waiting stays", x.world(3), 500);
        Due.be("run", x.run(100), 1);
        Due.be("waiting", x.world(3), 400);
        for (int n = 1; n <= 100; n++) {
            Due.be("give", x.give(-n), 400 + n);
        }
        Due.be("give beyond 500", x.give(1), -1);
        Due.be("run", x.run(1000), 3);
        Due.be("sum", x.output(0), sum);
        Due.be("the next one", x.output(1), -1);
        Due.be("waiting", x.world(3), 99);
        x.begin(4);
        Due.be("waiting stays", x.world(3), 99);
        Due.be("give", x.give(5), 100);
    }

    private static void begin() {
        CompiledHouse x = Due.house("int g=4;int main(){g++;put(g);while(1);}");
        for (int limit : new int[] {3, 0, -1, 2001, Integer.MIN_VALUE, Integer.MAX_VALUE}) {
            Due.be("begin " + limit, x.begin(limit), false);
            Due.be("no run", x.world(0), 0);
            Due.be("no limit", x.world(7), 0);
        }
        Due.be("begin", x.begin(2000), true);
        Due.be("it may go on", x.world(0), 1);
        Due.be("limit", x.world(7), 2000);
        Due.be("depth ahead of main", x.world(6), 0);
        Due.be("run", x.run(7), 1);
        Due.be("global", x.global(0), 5);
        Due.be("turns", x.world(1), 7);
        Due.be("a wrong begin", x.begin(3), false);
        Due.be("changes nothing", x.world(1), 7);
        Due.be("changes nothing", x.output(0), 5);
        Due.be("changes nothing", x.world(7), 2000);
        Due.be("begin", x.begin(4), true);
        Due.be("as at first", x.global(0), 4);
        Due.be("no output", x.world(2), 0);
        Due.be("no output", x.output(0), 0);
        Due.be("no turns", x.world(1), 0);
        Due.be("limit", x.world(7), 4);
        Due.be("run", x.run(0), 1);
        Due.be("depth", x.world(6), 4);
        Due.be("output", x.output(0), 5);
    }

    private static void turns() {
        CompiledHouse x = Due.house("int f(int n){return n;}int main(){int i;while(i<3){i++;}do i++;while(i<5);for(;i<7;i++);f(1);return f(f(i))+1;}");
        Due.be("run without a run", x.run(1), -1);
        x.begin(100);
        for (int turns : new int[] {-1, 1001, Integer.MIN_VALUE, Integer.MAX_VALUE}) {
            Due.be("run " + turns, x.run(turns), -1);
        }
        Due.be("nothing was done", x.world(6), 0);
        int all = 3 + 2 + 2 + 3;
        for (int n = 0; n < all; n++) {
            Due.be("run 0", x.run(0), 1);
            Due.be("turns", x.world(1), n);
            Due.be("run 1", x.run(1), n == all - 1 ? 3 : 1);
            Due.be("turns", x.world(1), n + 1);
        }
        Due.be("value", x.world(4), 8);
        Due.be("depth", x.world(6), 0);
        Due.be("what is over stays", x.run(1000), 3);
        Due.be("turns", x.world(1), all);
        Due.be("a wrong number", x.run(-1), -1);
        x.begin(100);
        Due.be("all at once", x.run(all), 3);
        x.begin(100);
        Due.be("one too few", x.run(all - 1), 1);
        Due.be("depth while PAUSED", x.world(6), 5);
        Due.be("no value yet", x.world(4), 0);
        Due.be("no place", x.world(5), -1);
        CompiledHouse y = Due.house("int main(){while(1);}");
        y.begin(4);
        for (int n = 1; n <= 5; n++) {
            Due.be("run", y.run(1000), 1);
            Due.be("turns", y.world(1), n * 1000);
        }
        // The E's of a CALL are worked out once, though it is PAUSED behind them.
        CompiledHouse z = Due.house("int g;int h(){g++;return g;}int f(int a){return a;}int main(){put(f(h()));}");
        z.begin(100);
        Due.be("run", z.run(1), 1);
        Due.be("worked out", z.global(0), 1);
        Due.be("depth", z.world(6), 4);
        Due.be("run", z.run(0), 1);
        Due.be("run", z.run(1), 3);
        Due.be("worked out once", z.global(0), 1);
        Due.be("output", z.output(0), 1);
    }

    private static void waits() {
        CompiledHouse x = Due.house("int g;int t(){g++;return 1;}int main(){put(t()+get()*get());}");
        x.begin(100);
        Due.be("run", x.run(5), 2);
        Due.be("how", x.world(0), 2);
        Due.be("turns", x.world(1), 1);
        Due.be("run", x.run(5), 2);
        x.give(6);
        Due.be("waits still", x.world(0), 2);
        Due.be("run", x.run(0), 2);
        Due.be("none waits", x.world(3), 0);
        x.give(7);
        x.give(8);
        Due.be("run", x.run(0), 3);
        Due.be("output", x.output(0), 43);
        Due.be("once", x.global(0), 1);
        Due.be("waiting", x.world(3), 1);
    }

    private static void output() {
        CompiledHouse x = Due.house("int main(){for(int i=0;i<700;i++){put(i);put(-i);put(i*i);}}");
        x.begin(100);
        Due.be("run", x.run(1000), 3);
        Due.be("all", x.world(2), 2100);
        for (int i = 0; i < 2000; i++) {
            Due.be("output " + i, x.output(i), i % 3 == 0 ? i / 3 : i % 3 == 1 ? -(i / 3) : i / 3 * (i / 3));
        }
        for (int i : new int[] {2000, 2099, 2100, -1, Integer.MIN_VALUE, Integer.MAX_VALUE}) {
            Due.be("output " + i, x.output(i), 0);
        }
        x.begin(100);
        Due.be("none", x.output(3), 0);
        x.run(1);
        Due.be("three", x.world(2), 3);
        Due.be("none such", x.output(3), 0);
        for (int what : new int[] {-1, 8, 9, Integer.MAX_VALUE, Integer.MIN_VALUE}) {
            Due.be("world " + what, x.world(what), -1);
        }
    }

    private static void global() {
        CompiledHouse x = Due.house("int a=-2;byte b[6]={1,2,255,256,5};const int k=9;int c[3]={k,-k};byte d[1]={511};int e;"
                + "int main(){a=1;b[5]=7;b[3]--;c[2]=5;d[0]+=3;e=get();a=100;}");
        int[] first = {-2, 0x00ff0201, 5, 9, -9, 0, 255, 0};
        int[] then = {1, 0xffff0201, 0x0705, 9, -9, 5, 2, 0};
        Due.be("words", x.look(1, 0), first.length);
        same(x, first);
        x.begin(50);
        same(x, first);
        Due.be("run", x.run(1), 2);
        same(x, then);
        x.give(-1);
        Due.be("run", x.run(1), 3);
        then[7] = -1;
        then[0] = 100;
        same(x, then);
        x.begin(50);
        same(x, first);
        for (int i : new int[] {-1, 8, 1999, 2000, Integer.MAX_VALUE, Integer.MIN_VALUE}) {
            Due.be("global " + i, x.global(i), 0);
        }
        CompiledHouse y = Due.house("int a[500];int b[500];int c[500];int d[500];int main(){a[0]=1;d[499]=2;c[499]=3;d[0]=4;}");
        y.begin(2000);
        Due.be("run", y.run(0), 3);
        Due.be("first", y.global(0), 1);
        Due.be("last", y.global(1999), 2);
        Due.be("c", y.global(1499), 3);
        Due.be("d", y.global(1500), 4);
        Due.be("beyond", y.global(2000), 0);
    }

    private static void same(CompiledHouse x, int[] words) {
        for (int i = 0; i < words.length; i++) {
            Due.be("global " + i, x.global(i), words[i]);
        }
    }

    private static void stack() {
        String text = "int f(int n){int a[3];return f(n+1);}int main(){put(1);int x;f(0);}";
        CompiledHouse x = Due.house(text);
        x.begin(4);
        Due.be("ahead of main", x.world(0), 1);
        Due.be("no room for main", x.run(0), 6);
        Due.be("main's NAME", x.world(5), text.indexOf("main"));
        Due.be("depth", x.world(6), 0);
        Due.be("turns", x.world(1), 0);
        Due.be("output", x.world(2), 0);
        x.begin(5);
        Due.be("room for main", x.run(0), 1);
        Due.be("no room for f", x.run(1), 6);
        Due.be("the CALL's NAME", x.world(5), text.lastIndexOf("f("));
        Due.be("depth", x.world(6), 5);
        Due.be("its turn was taken", x.world(1), 1);
        Due.be("value", x.world(4), 0);
        Due.be("what is over stays", x.run(5), 6);
        x.begin(5 + 3 * 8);
        Due.be("run", x.run(1000), 6);
        Due.be("the inner CALL", x.world(5), text.indexOf("f(n+1"));
        Due.be("depth", x.world(6), 29);
        Due.be("turns", x.world(1), 4);
        x.begin(5 + 3 * 8 + 7);
        x.run(1000);
        Due.be("depth", x.world(6), 29);
        x.begin(2000);
        Due.be("run", x.run(249), 1);
        Due.be("depth", x.world(6), 5 + 249 * 8);
        Due.be("run", x.run(0), 1);
        Due.be("run", x.run(1), 6);
        Due.be("depth", x.world(6), 5 + 249 * 8);
        CompiledHouse y = Due.house("int d(int n){if(n==0)return 0;return 1+d(n-1);}int main(){return d(398);}");
        y.begin(2000);
        Due.be("deep", y.run(1000), 3);
        Due.be("value", y.world(4), 398);
        y.begin(1998);
        Due.be("too deep", y.run(1000), 6);
    }

    private static void index() {
        String[] wrong = {"a[2]", "a[-1]", "a[0x80000000]", "b[3]", "b[-1]", "c[5]", "d[4294967295]", "p[2]", "q[3]"};
        for (String e : wrong) {
            String text = "int a[2];byte b[3];void f(int p[],byte q[]){int c[5];byte d[6];put(1);put(" + e + ");put(2);}int main(){f(a,b);}";
            CompiledHouse x = Due.house(text);
            x.begin(100);
            Due.be("run of " + e, x.run(5), 5);
            Due.be("place of " + e, x.world(5), text.indexOf("put(" + e) + 5);
            Due.be("depth of " + e, x.world(6), 4 + x.look(4, 0));
            Due.be("output of " + e, x.world(2), 1);
            Due.be("value of " + e, x.world(4), 0);
            Due.be("stays", x.run(5), 5);
        }
        // As soon as the index is worked out: ahead of the E behind = .
        String text = "int a[2];int g;int s(){g=1;return 0;}int main(){a[2]=s();}";
        CompiledHouse x = Due.house(text);
        x.begin(100);
        Due.be("run", x.run(5), 5);
        Due.be("place", x.world(5), text.indexOf("[2]=s"));
        Due.be("not called", x.world(1), 0);
        text = "int a[2];int main(){a[a[5]]=1;}";
        x = Due.house(text);
        x.begin(100);
        x.run(1);
        Due.be("the inner one", x.world(5), text.indexOf("[5]"));
        text = "int a[2];int main(){a[2]++;}";
        x = Due.house(text);
        x.begin(100);
        Due.be("run", x.run(1), 5);
        Due.be("place", x.world(5), text.indexOf("[2]+"));
    }

    private static void halted() {
        CompiledHouse x = Due.house("int f(){int a[3];halt(-5);return 1;}int main(){put(f());}");
        x.begin(100);
        Due.be("run", x.run(10), 4);
        Due.be("value", x.world(4), -5);
        Due.be("depth", x.world(6), 11);
        Due.be("place", x.world(5), -1);
        Due.be("output", x.world(2), 0);
        Due.be("stays", x.run(10), 4);
        x = Due.house("void main(){put(1);return;put(2);}");
        x.begin(4);
        Due.be("run", x.run(0), 3);
        Due.be("value of a void main", x.world(4), 0);
        Due.be("output", x.world(2), 1);
        x = Due.house("int main(){}");
        x.begin(4);
        Due.be("run", x.run(0), 3);
        Due.be("value of main's end", x.world(4), 0);
    }

    private static void arithmetic() {
        String names = "int a;int b;int main(){a=get();b=get();";
        String all = "put(a+b);put(a-b);put(a*b);put(a/b);put(a%b);put(a&b);put(a|b);put(a^b);put(a<<b);put(a>>b);put(a>>>b);"
                + "put(a<b);put(a<=b);put(a>b);put(a>=b);put(a==b);put(a!=b);put(a&&b);put(a||b);put(-a);put(~a);put(!a);put(a?b:a);}";
        int[] numbers = {0, 1, -1, 2, -2, 7, -7, 31, 32, 33, 100, Integer.MAX_VALUE, Integer.MIN_VALUE, Integer.MIN_VALUE + 1, 65536, -65537};
        for (int a : numbers) {
            for (int b : numbers) {
                long quotient = b == 0 ? -1 : (long) a / b;
                long rest = b == 0 ? a : (long) a % b;
                int n = b & 31;
                Due.output(names + all, new int[] {a, b}, a + b, a - b, a * b, quotient, rest, a & b, a | b, a ^ b, a << n, a >> n, a >>> n,
                        a < b ? 1 : 0, a <= b ? 1 : 0, a > b ? 1 : 0, a >= b ? 1 : 0, a == b ? 1 : 0, a != b ? 1 : 0,
                        a != 0 && b != 0 ? 1 : 0, a != 0 || b != 0 ? 1 : 0, -a, ~a, a == 0 ? 1 : 0, a != 0 ? b : a);
                Due.output("int v;byte w[1];int main(){int a=get();int b=get();v=a;v+=b;put(v);v=a;v-=b;put(v);v=a;v*=b;put(v);v=a;v/=b;put(v);v=a;v%=b;put(v);"
                        + "v=a;v&=b;put(v);v=a;v|=b;put(v);v=a;v^=b;put(v);v=a;v<<=b;put(v);v=a;v>>=b;put(v);v=a;v>>>=b;put(v);v=a;v++;put(v);v=a;v--;put(v);"
                        + "w[0]=a;put(w[0]);w[0]*=b;put(w[0]);w[0]=a;w[0]>>=b;put(w[0]);w[0]=a;w[0]/=b;put(w[0]);}", new int[] {a, b},
                        a + b, a - b, a * b, quotient, rest, a & b, a | b, a ^ b, a << n, a >> n, a >>> n, a + 1, a - 1,
                        a & 255, (a & 255) * b & 255, (a & 255) >> n, (b == 0 ? -1 : (a & 255) / b) & 255);
            }
        }
        Due.output("const int a=-2147483648/-1;const int b=5/0;const int c=5%0;const int d=-7/2;const int e=-7%2;const int f=1<<33;const int g=-8>>1;"
                + "const int h=-8>>>28;const int i=2147483648%-1;const int j=0&&1/0;const int k=3||0;const int l=0?1:2?3:4;"
                + "int main(){put(a);put(b);put(c);put(d);put(e);put(f);put(g);put(h);put(i);put(j);put(k);put(l);put(4294967295);put(0xfFfFfFfE);}",
                NOTHING, Integer.MIN_VALUE, -1, 5, -3, -1, 2, -4, 15, 0, 0, 1, 3, -1, -2);
    }

    private static void precedence() {
        Due.output("int main(){put(1?2:3?4:5);put(0?2:0?4:5);put(0||1&&0);put(1||0&&0);put(1&&2|4);put(1|2^3);put(2^3&1);put(1&2==2);put(1==2<3);"
                + "put(1<2==1);put(1<1<<1);put(1<<1+1);put(1+2*3);put(7-2-1);put(64/4/2);put(64>>2>>1);put(-1>>>28>>>1);put(10%4*2);put(-2*-3);put(!0+1);"
                + "put(~1&3);put(- - -3);put(-~!0);put(!!5);put(2*(3+4));put(1<2<3);put(3>2>1);put(5!=5==0);put(1?0?1:2:3);put((1,2));}".replace("(1,2)", "(12)"),
                NOTHING, 2, 5, 0, 1, 1, 1, 3, 1, 1, 1, 1, 4, 7, 4, 8, 8, 7, 4, 6, 2, 2, -3, 2, 1, 14, 1, 0, 1, 2, 12);
        Due.output("int main(){put(1|2&&4);put(4&6|1);put(5^1|2);put(2<1|1);put(1-1<<2);put(3*2%4);put(1+-1);put(1- -1);put(0?1:1||0);put(1||0?2:3);}",
                NOTHING, 1, 5, 6, 1, 0, 2, 0, 2, 1, 2);
    }

    private static void order() {
        String t = "int t(int n){put(n);return n;}";
        Due.output(t + "int main(){put(t(1)+t(2)*t(3));put(t(0)&&t(4));put(t(5)||t(6));put(t(0)?t(7):t(8));}",
                NOTHING, 1, 2, 3, 7, 0, 0, 5, 1, 0, 8, 8);
        Due.output(t + "int g(int a,int b,int c){return a*100+b*10+c;}int main(){put(g(t(1),t(2),t(3)));}", NOTHING, 1, 2, 3, 123);
        Due.output(t + "int a[3];int main(){a[t(1)]=t(2);put(a[1]);a[t(1)]+=t(3);put(a[1]);}", NOTHING, 1, 2, 2, 1, 3, 5);
        Due.output("int v=1;int s(){v=10;return 5;}int main(){v+=s();put(v);v=v+s();put(v);v=s()+v;put(v);}", NOTHING, 6, 11, 15);
        Due.output("int a[2];int s(){a[0]=10;return 5;}int main(){a[0]=1;a[0]+=s();put(a[0]);}", NOTHING, 6);
        Due.output("int i;int a[3];int s(){i=2;return 7;}int main(){a[i]=s();put(a[0]);put(a[2]);}", NOTHING, 7, 0);
        Due.output("int main(){put(get()-get());}", new int[] {9, 4}, 5);
        Due.output("int main(){put(2&&3);put(0||7);put(7||0);put(1&&0);put(3&&0||4);}", NOTHING, 1, 1, 1, 0, 1);
    }

    private static void scopes() {
        Due.output("int x=1;int main(){put(x);int x=x+1;put(x);{int x=x+1;put(x);x=9;}put(x);for(int x=5;x<6;x++)put(x);put(x);}",
                NOTHING, 1, 2, 3, 2, 5, 2);
        Due.output("int main(){for(int i=0;i<3;i++){int x;put(x);x=5;int a[2];put(a[1]);a[1]=i+1;}}", NOTHING, 0, 0, 0, 0, 0, 0);
        Due.output("int f(int f){return f+1;}int main(){put(f(1));}", NOTHING, 2);
        Due.output("const int n=2;int main(){int a[n];int n=5;a[1]=n;put(a[1]);}", NOTHING, 5);
        Due.output("int main(){int a=1;if(1)int a=2;put(a);{int b=3;}{int b;put(b);}}", NOTHING, 1, 0);
        Due.output("int a=7;int main(){for(int i=0;i<2;i++){put(a);int a=i;put(a);}}", NOTHING, 7, 0, 7, 1);
    }

    private static void loops() {
        Due.output("int main(){int i;while(i<10){i++;if(i==3)continue;if(i==6)break;put(i);}put(i);}", NOTHING, 1, 2, 4, 5, 6);
        Due.output("int main(){int i;do{i++;if(i==2)continue;if(i==5)break;put(i);}while(i<9);put(i);}", NOTHING, 1, 3, 4, 5);
        Due.output("int main(){int i;do{i++;continue;}while(i<3);put(i);}", NOTHING, 3);
        Due.output("int main(){for(int i=0;i<6;i++){if(i==1)continue;if(i==4)break;put(i);}}", NOTHING, 0, 2, 3);
        Due.output("int main(){int i;for(;;){i++;if(i>3)return i;put(i);}}", NOTHING, 1, 2, 3);
        Due.output("int main(){for(int i=0;i<3;i++)for(int j=0;j<3;j++){if(j==1)continue;if(i==1)break;put(i*10+j);}}", NOTHING, 0, 2, 20, 22);
        Due.output("int main(){int n;while(1){while(1){n++;if(n%2)break;if(n>5)break;continue;}if(n>6)break;put(n);}put(n);}", NOTHING, 1, 3, 5, 6, 7);
        Due.output("int main(){if(0)if(1)put(1);else put(2);if(1)if(0)put(3);else put(4);if(0);else if(1)put(5);else put(6);}", NOTHING, 4, 5);
        Due.output("int i;void s(){i+=2;}int main(){for(s();i<9;s())put(i);}", NOTHING, 2, 4, 6, 8);
        Due.output("int main(){do put(1);while(0);while(0)put(2);for(;0;)put(3);}", NOTHING, 1);
    }

    private static void arrays() {
        Due.output("byte b[3];int main(){b[0]=256;b[1]=-1;b[2]=300;put(b[0]);put(b[1]);put(b[2]);b[1]++;put(b[1]);b[0]--;put(b[0]);put(b[2]);}",
                NOTHING, 0, 255, 44, 0, 255, 44);
        Due.output("void f(int a[],byte b[],int i){a[i]=5;b[i]=6;i=9;}int main(){int x[3];byte y[7];int i=2;f(x,y,i);put(x[2]);put(y[2]);put(i);put(y[1]+y[3]);}",
                NOTHING, 5, 6, 2, 0);
        Due.output("int g[4];void f(int a[]){a[3]=8;}void h(int a[]){f(a);}int main(){h(g);put(g[3]);}", NOTHING, 8);
        Due.output("int f(int a[],int b[]){a[0]=3;return b[0];}int main(){int a[1];put(f(a,a));}", NOTHING, 3);
        Due.output("int f(int n,int a[]){int b[2];b[0]=n;if(n>0)f(n-1,b);a[1]=n;return b[1];}int main(){int a[2];put(f(3,a));put(a[1]);}", NOTHING, 2, 3);
        Due.output("int a[3]={5,6};int main(){put(a[0]);put(a[1]);put(a[2]);a[a[0]-3]=4;put(a[2]);}", NOTHING, 5, 6, 0, 4);
        Due.output("int main(){byte a[500];a[499]=1;a[0]=2;put(a[499]);put(a[0]);put(a[498]);}", NOTHING, 1, 2, 0);
    }

    private static void functions() {
        Due.output("int f(int n){if(n<2)return n;return f(n-1)+f(n-2);}int main(){put(f(12));}", NOTHING, 144);
        Due.output("int e(int n){if(n==0)return 1;return o(n-1);}int o(int n){if(n==0)return 0;return e(n-1);}int main(){put(e(9));put(o(9));}", NOTHING, 0, 1);
        Due.output("int f(){}int g(int a){if(a)return 4;}void h(){return;}int main(){put(f());put(g(1));put(g(0));h();put(1);}", NOTHING, 0, 4, 0, 1);
        Due.output("int n;int main(){n++;if(n<4)main();put(n);}", NOTHING, 4, 4, 4, 4);
        // What a function tells and leaves does not touch the values that wait in its caller.
        Due.output("int f(int p){int x;int a[1+1];byte b[0?2:3];put(x);put(a[1]+b[2]);x=p;for(int i=x;i<9;i++){int y;put(y);y=7;if(i==4)return x;}return-x;}"
                + "int main(){put(10-f(4)*f(9));int a[5];a[f(4)]=20-f(4);put(a[4]);a[f(4)]+=f(9);put(a[4]);}",
                NOTHING, 0, 0, 0, 0, 0, 46, 0, 0, 0, 0, 0, 0, 16, 0, 0, 0, 0, 0, 7);
        Due.output("int a(int x){return x+b(x);}int b(int x){x*=2;return x;}int main(){put(a(3)+a(b(2)));}", NOTHING, 21);
    }

    /** An object may be used for 512 calls, all of them reads and runs if need be. */
    private static void mostCalls() {
        CompiledHouse x = new CompiledHouse();
        for (int n = 0; n < 64; n++) {
            String text = "int g=" + n + ";int main(){put(g*2);}";
            Due.be("read", Due.read(x, text), 0);
            x.begin(4);
            Due.be("run", x.run(0), 3);
            Due.be("output", x.output(0), n * 2);
        }
    }
}
