/** The edges of Terms 2: values, order, arrays, what is told anew, loops, results; each sentence on its own. */
public final class MeaningEdgesTest {
    private static final int[] NOTHING = {};
    private static final int LEAST = Integer.MIN_VALUE;
    private static final int MOST = Integer.MAX_VALUE;

    public static void main(String[] args) {
        eachOperatorIsItsOwn();
        whatBindsMore();
        fromTheLeft();
        aheadOfAnOperand();
        bindsLeast();
        sumsAndProductsWrap();
        cutTowards0();
        dividedBy0();
        theLeastByMinus1();
        shiftsByTheLowestFiveBits();
        comparisonsGive1Or0();
        whatIsNot0IsTrue();
        onlyWhatIsWanted();
        fromTheLeftToTheRight();
        zeroWhereNothingIsTold();
        theLowestEightBits();
        noElementsIndex();
        elementsLieApart();
        indexFirst();
        whatIsThereThenTheE();
        madeAnew();
        theCallersOwn();
        valuesThatWait();
        elseOfTheNearestIf();
        forLoops();
        loopsInLoops();
        results();
        Due.done();
    }

    /** The E is worked out of the two numbers of the INPUT, as a and b. */
    private static void worth(String e, int a, int b, int due) {
        Due.output("int main(){int a=get();int b=get();put(" + e + ");}", new int[] {a, b}, due);
    }

    private static void changed(String change, int a, int b, int due) {
        Due.output("int v;int w[3];int main(){int a=get();int b=get();int x=a;x" + change + ";put(x);v=a;v" + change + ";put(v);w[1]=a;w[1]" + change + ";put(w[1]);put(w[0]|w[2]);}",
                new int[] {a, b}, due, due, due, 0);
    }

    /** Of two rows of numbers no two operators give the same in both. */
    private static void eachOperatorIsItsOwn() {
        String[] signs = {"|", "^", "&", "+", "-", "*", "/", "%", "<<", ">>", ">>>"};
        int[] due = {-203, -208, 5, -198, -208, -1015, -40, -3, -6496, -7, 134217721};
        int[] others = {102, 98, 4, 106, 94, 600, 16, 4, 6400, 1, 1};
        for (int k = 0; k < signs.length; k++) {
            worth("a" + signs[k] + "b", -203, 5, due[k]);
            changed(signs[k] + "=b", -203, 5, due[k]);
            worth("a" + signs[k] + "b", 100, 6, others[k]);
            changed(signs[k] + "=b", 100, 6, others[k]);
        }
    }

    // "E: .. then || , && , | , ^ , & , == != , < <= > >= , << >> >>> , + - , * / % (all these from the left)"

    private static final String[][] LEVELS = {
        {"||"}, {"&&"}, {"|"}, {"^"}, {"&"}, {"==", "!="}, {"<", "<=", ">", ">="}, {"<<", ">>", ">>>"}, {"+", "-"}, {"*", "/", "%"}};

    private static int joined(String sign, int a, int b) {
        switch (sign) {
            case "||":
                return a != 0 || b != 0 ? 1 : 0;
            case "&&":
                return a != 0 && b != 0 ? 1 : 0;
            case "|":
                return a | b;
            case "^":
                return a ^ b;
            case "&":
                return a & b;
            case "==":
                return a == b ? 1 : 0;
            case "!=":
                return a != b ? 1 : 0;
            case "<":
                return a < b ? 1 : 0;
            case "<=":
                return a <= b ? 1 : 0;
            case ">":
                return a > b ? 1 : 0;
            case ">=":
                return a >= b ? 1 : 0;
            case "<<":
                return a << (b & 31);
            case ">>":
                return a >> (b & 31);
            case ">>>":
                return a >>> (b & 31);
            case "+":
                return a + b;
            case "-":
                return a - b;
            case "*":
                return a * b;
            case "/":
                return b == 0 ? -1 : a / b;
            default:
                return b == 0 ? a : a % b;
        }
    }

    private static final int[] FEW = {0, 1, 2, 3, 5, 6, 7, 12, -1, -2, -3, -7};

    /** Of each two operators, with numbers of which the two ways to join them make different values, if there are such. */
    private static void whatBindsMore() {
        int told = 0;
        for (int low = 0; low < LEVELS.length; low++) {
            for (int high = low; high < LEVELS.length; high++) {
                for (String one : LEVELS[low]) {
                    for (String other : LEVELS[high]) {
                        told += pair(one, other, low == high);
                        told += low == high ? 0 : pair(other, one, true);
                    }
                }
            }
        }
        Due.be("pairs that can be told apart: " + told, told >= 340, true);
    }

    private static int pair(String first, String second, boolean leftFirst) {
        int found = 0;
        for (int a : FEW) {
            for (int b : FEW) {
                for (int c : FEW) {
                    int left = joined(second, joined(first, a, b), c);
                    int right = joined(first, a, joined(second, b, c));
                    if (left != right && found < 3) {
                        found++;
                        String e = "a" + first + "b" + second + "c";
                        Due.output("int main(){int a=get();int b=get();int c=get();put(" + e + ");}", new int[] {a, b, c}, leftFirst ? left : right);
                        Due.output("const int a=" + a + ";const int b=" + b + ";const int c=" + c + ";const int d=" + e + ";int main(){put(d);}", NOTHING, leftFirst ? left : right);
                    }
                }
            }
        }
        return found > 0 ? 1 : 0;
    }

    private static void fromTheLeft() {
        worth("a-b-1", 10, 3, 6);
        worth("a-(b-1)", 10, 3, 8);
        worth("a/b/2", 100, 5, 10);
        worth("a%b%4", 29, 11, 3);
        worth("a/b*b", 29, 11, 22);
        worth("a*b/4%3", 7, 6, 1);
        worth("a<<b<<1", 1, 2, 8);
        worth("a>>b<<b", 7, 1, 6);
        worth("a<b<2", 5, 3, 1);
        worth("a==b==0", 5, 3, 1);
        worth("a-b+1", 5, 3, 3);
        worth("a>b>=1", 9, 3, 1);
    }

    // "then - ~ ! ahead of an operand (any number of them)"

    private static void aheadOfAnOperand() {
        for (String[] level : LEVELS) {
            for (String sign : level) {
                for (int a : new int[] {0, 1, 6, -3}) {
                    for (int b : new int[] {0, 1, 2, -5}) {
                        worth("-a" + sign + "b", a, b, joined(sign, -a, b));
                        worth("~a" + sign + "b", a, b, joined(sign, ~a, b));
                        worth("!a" + sign + "b", a, b, joined(sign, a == 0 ? 1 : 0, b));
                        worth("a" + sign + " -b", a, b, joined(sign, a, -b));
                        worth("a" + sign + "~b", a, b, joined(sign, a, ~b));
                        worth("a" + sign + "!b", a, b, joined(sign, a, b == 0 ? 1 : 0));
                    }
                }
            }
        }
        worth("- -a", 5, 0, 5);
        worth("~-a", 5, 0, 4);
        worth("-~a", 5, 0, 6);
        worth("!-a", 5, 0, 0);
        worth("-!a", 0, 0, -1);
        worth("!~a", -1, 0, 1);
        worth("~!a", 0, 0, -2);
        worth("- - - -a", 5, 0, 5);
        Due.output("int a[2]={3,4};int f(){return 6;}int main(){put(-a[1]);put(~f());put(!a[0]);put(-(1+2));put(- -f()*-a[0]);}", NOTHING, -4, -7, 0, -3, -18);
    }

    // "E ? E : E binds least (from the right: behind the : comes an E)"

    private static void bindsLeast() {
        for (String[] level : LEVELS) {
            for (String sign : level) {
                for (int a : new int[] {0, 1, 6}) {
                    for (int b : new int[] {0, 1, 2}) {
                        worth("a" + sign + "b?7:8", a, b, joined(sign, a, b) != 0 ? 7 : 8);
                        worth("1?a" + sign + "b:8", a, b, joined(sign, a, b));
                        worth("0?8:a" + sign + "b", a, b, joined(sign, a, b));
                        worth("1?a:8" + sign + "b", a, b, a);
                        worth("(1?a:8)" + sign + "b", a, b, joined(sign, a, b));
                    }
                }
            }
        }
        for (int a = 0; a <= 2; a++) {
            for (int b = 0; b <= 2; b++) {
                worth("a?1:b?2:3", a, b, a != 0 ? 1 : b != 0 ? 2 : 3);
                worth("a?b?1:2:3", a, b, a != 0 ? b != 0 ? 1 : 2 : 3);
                worth("(a?1:0)?b:9", a, b, a != 0 ? b : 9);
                worth("a?b:a?5:6", a, b, a != 0 ? b : 6);
            }
        }
    }

    // "All values are ints, sums and products wrap"

    private static void sumsAndProductsWrap() {
        int[][] sums = {{MOST, 0, MOST}, {MOST, 1, LEAST}, {MOST, 2, LEAST + 1}, {MOST, MOST, -2}, {LEAST, -1, MOST}, {LEAST, LEAST, 0}, {MOST - 1, 1, MOST}, {LEAST, MOST, -1}};
        for (int[] sum : sums) {
            worth("a+b", sum[0], sum[1], sum[2]);
            changed("+=b", sum[0], sum[1], sum[2]);
            worth("a-b", sum[2], sum[1], sum[0]);
            changed("-=b", sum[2], sum[1], sum[0]);
        }
        int[][] products = {{65536, 65536, 0}, {65536, 32768, LEAST}, {65536, 32767, 2147418112}, {46341, 46341, -2147479015}, {46340, 46340, 2147395600}, {LEAST, -1, LEAST}, {LEAST, LEAST, 0},
            {MOST, MOST, 1}, {MOST, 2, -2}, {LEAST, 2, 0}, {MOST, -1, LEAST + 1}, {65537, 65537, 131073}};
        for (int[] product : products) {
            worth("a*b", product[0], product[1], product[2]);
            worth("b*a", product[0], product[1], product[2]);
            changed("*=b", product[0], product[1], product[2]);
        }
        worth("-a", LEAST, 0, LEAST);
        worth("-a", LEAST + 1, 0, MOST);
        worth("-a", MOST, 0, LEAST + 1);
        worth("-a", 0, 0, 0);
        worth("~a", MOST, 0, LEAST);
        worth("~a", -1, 0, 0);
        changed("++", MOST, 0, LEAST);
        changed("++", MOST - 1, 0, MOST);
        changed("++", -1, 0, 0);
        changed("--", LEAST, 0, MOST);
        changed("--", LEAST + 1, 0, LEAST);
        changed("--", 0, 0, -1);
    }

    // "/ and % are cut towards 0"

    private static void cutTowards0() {
        int[][] due = {{7, 2, 3, 1}, {-7, 2, -3, -1}, {7, -2, -3, 1}, {-7, -2, 3, -1}, {1, 2, 0, 1}, {-1, 2, 0, -1}, {1, -2, 0, 1}, {-1, -2, 0, -1}, {6, 3, 2, 0}, {-6, 3, -2, 0}, {0, 5, 0, 0}, {0, -5, 0, 0},
            {MOST, 2, 1073741823, 1}, {LEAST, 2, -1073741824, 0}, {LEAST, 3, -715827882, -2}, {LEAST, MOST, -1, -1}, {MOST, LEAST, 0, MOST}, {LEAST, LEAST, 1, 0}, {MOST, MOST, 1, 0}, {LEAST, 1, LEAST, 0}};
        for (int[] row : due) {
            divided(row[0], row[1], row[2], row[3]);
        }
    }

    private static void divided(int a, int b, int quotient, int rest) {
        worth("a/b", a, b, quotient);
        worth("a%b", a, b, rest);
        changed("/=b", a, b, quotient);
        changed("%=b", a, b, rest);
    }

    // "a / 0 is -1, a % 0 is a"

    private static void dividedBy0() {
        for (int a : new int[] {0, 1, -1, 2, 100, LEAST, LEAST + 1, MOST}) {
            divided(a, 0, -1, a);
        }
        divided(5, 1, 5, 0);
        divided(5, -1, -5, 0);
        Due.output("byte b[2]={9,9};int main(){b[0]/=0;b[1]%=0;put(b[0]);put(b[1]);}", NOTHING, 255, 9);
    }

    // "-2^31 / -1 is -2^31, the rest 0"

    private static void theLeastByMinus1() {
        divided(LEAST, -1, LEAST, 0);
        divided(LEAST + 1, -1, MOST, 0);
        divided(MOST, -1, LEAST + 1, 0);
        divided(LEAST, -2, 1073741824, 0);
    }

    // "<< , >> (with its sign), >>> (0s) by the lowest five bits of the right one"

    private static void shiftsByTheLowestFiveBits() {
        for (int n : new int[] {0, 1, 2, 30, 31, 32, 33, 62, 63, 64, 65, 255, 256, -1, -2, -31, -32, -33, LEAST, LEAST + 1, MOST}) {
            int five = ((n % 32) + 32) % 32;
            long power = 1L << five;
            for (int a : new int[] {0, 1, -1, 2, -8, 12345, LEAST, LEAST + 1, MOST}) {
                int up = (int) (a * power);
                int down = (int) Math.floorDiv((long) a, power);
                int zeros = (int) ((a & 0xffffffffL) / power);
                worth("a<<b", a, n, up);
                worth("a>>b", a, n, down);
                worth("a>>>b", a, n, zeros);
                changed("<<=b", a, n, up);
                changed(">>=b", a, n, down);
                changed(">>>=b", a, n, zeros);
            }
        }
    }

    // "Comparisons, ! , && , || give 1 or 0"

    private static void comparisonsGive1Or0() {
        int[] numbers = {LEAST, LEAST + 1, -2, -1, 0, 1, 2, MOST - 1, MOST};
        for (int i = 0; i < numbers.length; i++) {
            for (int k = 0; k < numbers.length; k++) {
                worth("a<b", numbers[i], numbers[k], i < k ? 1 : 0);
                worth("a<=b", numbers[i], numbers[k], i <= k ? 1 : 0);
                worth("a>b", numbers[i], numbers[k], i > k ? 1 : 0);
                worth("a>=b", numbers[i], numbers[k], i >= k ? 1 : 0);
                worth("a==b", numbers[i], numbers[k], i == k ? 1 : 0);
                worth("a!=b", numbers[i], numbers[k], i == k ? 0 : 1);
            }
        }
    }

    // "what is not 0 is true"

    private static void whatIsNot0IsTrue() {
        for (int a : new int[] {0, 1, 2, -1, 256, 65536, LEAST, MOST}) {
            int truth = a == 0 ? 0 : 1;
            worth("!a", a, 0, 1 - truth);
            worth("!!a", a, 0, truth);
            worth("a&&1", a, 0, truth);
            worth("1&&a", a, 0, truth);
            worth("a||0", a, 0, truth);
            worth("0||a", a, 0, truth);
            worth("a&&a", a, 0, truth);
            worth("a||a", a, 0, truth);
            worth("a?7:8", a, 0, 8 - truth);
            Due.output("int main(){int a=get();if(a)put(1);else put(0);}", new int[] {a}, truth);
            Due.output("int main(){int a=get();int n;while(a){a=0;n++;}put(n);}", new int[] {a}, truth);
            Due.output("int main(){int a=get();int n;for(;a;a=0)n++;put(n);}", new int[] {a}, truth);
            Due.output("int main(){int a=get();int n;do{n++;if(n==2)a=0;}while(a);put(n);}", new int[] {a}, 1 + truth);
        }
    }

    // "Of && , || , ? : the right ones are worked out only if they are wanted"

    private static void onlyWhatIsWanted() {
        String t = "int t(int n){put(n);return n;}";
        String[] es = {"t(0)&&t(1)", "t(2)&&t(3)", "t(0)||t(4)", "t(5)||t(6)", "t(0)&&t(1)&&t(2)", "t(1)&&t(0)&&t(2)", "t(1)||t(2)||t(3)", "t(0)||t(0)||t(3)", "t(0)&&t(1)||t(2)", "t(1)||t(2)&&t(3)",
            "t(0)||t(2)&&t(0)", "t(1)?t(2):t(3)", "t(0)?t(2):t(3)", "t(1)?t(0)?t(2):t(3):t(4)", "t(0)?t(2):t(0)?t(3):t(4)", "!t(0)&&t(2)", "t(0)&&t(1)?t(2):t(3)", "(t(1)||t(2))&&t(3)", "(t(0)&&t(2))+t(3)",
            "t(1)?t(2)&&t(0):t(5)"};
        long[][] due = {{0, 0}, {2, 3, 1}, {0, 4, 1}, {5, 1}, {0, 0}, {1, 0, 0}, {1, 1}, {0, 0, 3, 1}, {0, 2, 1}, {1, 1},
            {0, 2, 0, 0}, {1, 2, 2}, {0, 3, 3}, {1, 0, 3, 3}, {0, 0, 4, 4}, {0, 2, 1}, {0, 3, 3}, {1, 3, 1}, {0, 3, 3},
            {1, 2, 0, 0}};
        for (int k = 0; k < es.length; k++) {
            Due.output(t + "int main(){put(" + es[k] + ");}", NOTHING, due[k]);
            Due.output(t + "int g;int main(){g=" + es[k] + ";put(g);}", NOTHING, due[k]);
        }
        // What is not wanted does not wait, and has no index.
        Due.output("int a[1];int main(){put(0&&a[5]);put(1||get());put(1?2:a[9]);put(0?get():3);}", NOTHING, 0, 1, 2, 3);
    }

    // "all else from the left to the right"

    private static void fromTheLeftToTheRight() {
        String t = "int t(int n){put(n);return n;}int a[9];int f(int p,int q,int r,int s){return p*1000+q*100+r*10+s;}";
        for (String sign : "| ^ & == != < <= > >= << >> >>> + - * / %".split(" ")) {
            Due.output(t + "int main(){a[0]=t(6)" + sign + "t(3);}", NOTHING, 6, 3);
            Due.output(t + "int main(){a[0]=t(6)" + sign + "t(3)" + sign + "t(1);}", NOTHING, 6, 3, 1);
        }
        Due.output(t + "int main(){put(t(1)+t(2)*t(3)-t(4));}", NOTHING, 1, 2, 3, 4, 3);
        Due.output(t + "int main(){put(t(1)*(t(2)+t(3)));}", NOTHING, 1, 2, 3, 5);
        Due.output(t + "int main(){put(f(t(1),t(2),t(3),t(4)));}", NOTHING, 1, 2, 3, 4, 1234);
        Due.output(t + "int main(){put(f(1,f(t(0),0,0,t(2)),t(3),4));}", NOTHING, 0, 2, 3, 1234);
        Due.output(t + "int main(){a[t(1)]=t(2);a[t(3)]+=t(4);put(a[t(1)]-a[t(3)]);}", NOTHING, 1, 2, 3, 4, 1, 3, -2);
        Due.output("int g;int h(){g=g*10+1;return g;}int main(){put(g+h()+g+h()+g);}", NOTHING, 24);
        Due.output("int main(){put(get()*100+get()*10+get());}", new int[] {1, 2, 3}, 123);
    }

    // "An array has elements 0 .. n - 1, 0 where nothing is told, of { } the first ones as told"

    private static void zeroWhereNothingIsTold() {
        Due.output("int a[4]={5,-6};byte b[5]={7,8,9};int c[2];byte d[2];int main(){for(int i=0;i<4;i++)put(a[i]);for(int i=0;i<5;i++)put(b[i]);put(c[0]|c[1]|d[0]|d[1]);}",
                NOTHING, 5, -6, 0, 0, 7, 8, 9, 0, 0, 0);
        Due.output("int a[1]={3};int b[2]={4,5};byte c[4]={1,2,3,4};int main(){put(a[0]);put(b[0]);put(b[1]);put(c[0]);put(c[3]);}", NOTHING, 3, 4, 5, 1, 4);
        Due.output("int a[500];byte b[500];int main(){int s;for(int i=0;i<500;i++)s|=a[i]|b[i];put(s);byte c[500];int d[70];for(int i=0;i<70;i++)s|=c[i]|d[i];put(s|c[499]);}", NOTHING, 0, 0);
    }

    // "a byte array's are 0 .. 255: of what is put there the lowest eight bits"

    private static void theLowestEightBits() {
        for (int n : new int[] {0, 1, 127, 128, 254, 255, 256, 257, 511, 512, -1, -128, -129, -255, -256, -257, LEAST, MOST, 0x12345678}) {
            int low = n & 255;
            Due.output("byte g[6]={1,2," + (n == LEAST ? "2147483648" : "" + n) + ",4};void f(byte p[],int n){p[1]=n;put(p[1]);put(p[0]+p[2]);}int main(){put(g[2]);put(g[1]+g[3]);int n=get();g[5]=n;put(g[5]);put(g[4]);"
                    + "byte l[7];l[3]=n;put(l[3]);put(l[2]+l[4]);f(l,n);f(g,n);put(g[2]+1-1);}", new int[] {n}, low, 6, low, 0, low, 0, low, 0, low, 1 + low, low);
            // With an operator it is the element, 0 .. 255, that is worked with.
            Due.output("byte b[3];int main(){int n=get();b[1]=n;b[1]++;put(b[1]);b[1]=n;b[1]--;put(b[1]);b[1]=n;b[1]+=200;put(b[1]);b[1]=n;b[1]>>=1;put(b[1]);b[1]=n;b[1]<<=1;put(b[1]);b[1]=n;b[1]*=3;put(b[1]);"
                    + "b[1]=n;b[1]-=300;put(b[1]);b[1]=n;b[1]|=256;put(b[1]);b[1]=n;b[1]/=-1;put(b[1]);put(b[0]|b[2]);}", new int[] {n},
                    low + 1 & 255, low - 1 & 255, low + 200 & 255, low >> 1, low << 1 & 255, low * 3 & 255, low - 300 & 255, low, -low & 255, 0);
        }
        Due.output("byte b[1]={255};int main(){put(b[0]<0);put(b[0]>254);b[0]++;put(b[0]);b[0]--;put(b[0]);}", NOTHING, 0, 1, 0, 255);
    }

    // "As soon as an index is worked out that is no element's, the run ends: INDEX, at the ["

    private static void noElementsIndex() {
        int[] sizes = {1, 2, 3, 4, 5, 8, 198};
        String[] uses = {"put(x@[get()]);", "x@[get()]=5;", "x@[get()]+=5;", "x@[get()]++;", "put(1+x@[get()]*2);", "put(id(x@[get()]));", "if(x@[get()]);", "x[x@[get()]]=1;", "return x@[get()];"};
        for (int n : sizes) {
            for (String kind : new String[] {"int", "byte"}) {
                String global = kind + " x[" + n + "];int id(int p){return p;}int main(){%}";
                String local = "int id(int p){return p;}int main(){int u;" + kind + " x[" + n + "];int w;%}";
                String passed = kind + " g[" + n + "];int id(int p){return p;}int f(" + kind + " x[]){int w;%}int main(){f(g);}";
                String passedLocal = "int id(int p){return p;}int f(int a," + kind + " x[]){%}int main(){" + kind + " g[" + n + "];f(1,g);}";
                for (String text : new String[] {global, local, passed, passedLocal}) {
                    for (String use : n < 5 ? uses : new String[] {uses[0], uses[1]}) {
                        for (int i : new int[] {LEAST, LEAST + 1, -n, -2, -1, n, n + 1, 4 * n, 500, 2000, 65536, 1 << 28, 1 << 29, 1 << 30, MOST}) {
                            index(text.replace("%", use), i, i < 0 || i >= n);
                        }
                        index(text.replace("%", use), 0, false);
                        index(text.replace("%", use), n - 1, false);
                    }
                }
            }
        }
        index("int x[500];int main(){put(x@[get()]);}", 499, false);
        index("int x[500];int main(){put(x@[get()]);}", 500, true);
        index("byte x[500];int main(){byte y[500];y@[get()]=1;}", 499, false);
        index("byte x[500];int main(){byte y[500];y@[get()]=1;}", 500, true);
    }

    private static void index(String marked, int i, boolean ends) {
        CompiledHouse x = Due.house(marked.replace("@", ""));
        x.give(i);
        x.begin(2000);
        String what = marked + " with " + i;
        Due.be(what, x.run(9), ends ? 5 : 3);
        Due.be(what + ": place", x.world(5), ends ? marked.indexOf('@') : -1);
    }

    private static void elementsLieApart() {
        for (String kind : new String[] {"int", "byte"}) {
            for (int n = 1; n <= 6; n++) {
                String fill = "for(int i=0;i<" + n + ";i++){a[i]=i+1;b[i]=i+101;}";
                String show = "for(int i=0;i<" + n + ";i++){put(a[i]);put(b[i]);}put(x);put(y);put(z);";
                long[] due = new long[2 * n + 3];
                for (int i = 0; i < n; i++) {
                    due[2 * i] = i + 1;
                    due[2 * i + 1] = i + 101;
                }
                due[2 * n] = 7;
                due[2 * n + 1] = 8;
                due[2 * n + 2] = 9;
                String tolds = "int x=7;" + kind + " a[" + n + "];int y=8;" + kind + " b[" + n + "];int z=9;";
                Due.output(tolds + "int main(){" + fill + show + "}", NOTHING, due);
                Due.output("int main(){" + tolds + fill + show + "}", NOTHING, due);
                Due.output("void f(int x," + kind + " a[],int y," + kind + " b[]){int z=9;" + fill + show + "}int main(){" + kind + " p[" + n + "];" + kind + " q[" + n + "];f(7,p,8,q);}", NOTHING, due);
                Due.output(kind + " p[" + n + "];" + kind + " q[" + n + "];void f(int x," + kind + " a[],int y," + kind + " b[]){int z=9;" + fill + show + "}int main(){f(7,p,8,q);}", NOTHING, due);
            }
        }
    }

    // "PLACE = E: the index first, then the E"

    private static void indexFirst() {
        String t = "int a[3];int t(int n){put(n);return n;}";
        Due.output(t + "int main(){a[t(1)]=t(2);put(a[1]);}", NOTHING, 1, 2, 2);
        Due.output("int i;int a[3];int s(){i=2;return 7;}int main(){a[i]=s();put(a[0]);put(a[2]);a[i]=i+s();put(a[2]);}", NOTHING, 7, 0, 9);
        // No element's index ends it ahead of the E: nothing is put, and no INPUT is waited for.
        for (String e : new String[] {"a[3]=t(2);", "a[3]+=t(2);", "a[t(-1)]=t(2);", "a[3]=get();", "a[3]-=get();"}) {
            CompiledHouse x = Due.house(t + "int main(){" + e + "}");
            x.begin(100);
            Due.be("run of " + e, x.run(9), 5);
            Due.be("output of " + e, x.world(2), e.contains("t(-1)") ? 1 : 0);
            Due.be("place of " + e, x.world(5), (t + "int main(){a").length());
        }
        // Ahead of it all is as it was; of two the inner one comes first, of a sum the left one.
        String[] marked = {"a[a@[3]]=1;", "a@[a[0]-1]=a[5];", "put(a@[3]+a[4]);", "put(a[0]+a@[4]);", "put(f(a@[3],a[4]));", "put(f(t(1),a@[4]));", "a[0]=a@[7];", "put(t(1)&&a@[3]);", "a[a[0]]+=a@[-1];"};
        for (String e : marked) {
            String text = t + "int f(int p,int q){put(99);return 0;}int main(){put(4);" + e + "put(5);}";
            CompiledHouse x = Due.house(text.replace("@", ""));
            x.begin(100);
            Due.be("run of " + e, x.run(9), 5);
            Due.be("place of " + e, x.world(5), text.indexOf('@'));
            Due.be("output of " + e, x.world(2), e.contains("t(1)") ? 2 : 1);
        }
    }

    // "with an operator (++ and -- are += 1, -= 1): the index, what is there, the E, in this order"

    private static void whatIsThereThenTheE() {
        String s = "int v=1;int a[2]={1,1};byte b[2]={1,1};int s(){v=100;a[1]=100;b[1]=100;return 5;}";
        Due.output(s + "int main(){v+=s();put(v);}", NOTHING, 6);
        Due.output(s + "int main(){a[1]+=s();put(a[1]);}", NOTHING, 6);
        Due.output(s + "int main(){b[1]-=s();put(b[1]);}", NOTHING, 252);
        Due.output(s + "int main(){v=v+s();put(v);}", NOTHING, 6);
        Due.output(s + "int main(){v=s()+v;put(v);}", NOTHING, 105);
        Due.output(s + "int main(){v-=s()+v;put(v);}", NOTHING, -104);
        Due.output("int i;int a[3]={10,20,30};int s(){i=2;return 1;}int main(){a[i]+=s();put(a[0]);put(a[2]);}", NOTHING, 11, 30);
        // The index of ++ is worked out once.
        Due.output("int n;int a[5];int i(){n++;return n;}int main(){a[i()]++;put(n);put(a[1]);a[i()]--;put(n);put(a[2]);a[i()]*=2;put(n);}", NOTHING, 1, 1, 2, -1, 3);
    }

    // "What STATEMENTs tell is made anew, 0 or its E, each time that it is come to"

    private static void madeAnew() {
        String[] loops = {"for(int i=0;i<3;i++){%}", "int i;while(i<3){%i++;}", "int i;do{%i++;}while(i<3);"};
        for (String loop : loops) {
            Due.output("int main(){" + loop.replace("%", "int x;put(x);x=i+5;") + "}", NOTHING, 0, 0, 0);
            Due.output("int main(){" + loop.replace("%", "int x=i*2;put(x);x=9;") + "}", NOTHING, 0, 2, 4);
            Due.output("int main(){" + loop.replace("%", "int x[3];put(x[0]|x[1]|x[2]);x[i]=7;x[2]=1;") + "}", NOTHING, 0, 0, 0);
            Due.output("int main(){" + loop.replace("%", "byte x[6];put(x[0]|x[3]|x[4]|x[5]);x[i]=7;x[5]=1;x[4]=2;x[3]=3;") + "}", NOTHING, 0, 0, 0);
            Due.output("int main(){int x=4;" + loop.replace("%", "put(x);x++;") + "}", NOTHING, 4, 5, 6);
        }
        Due.output("int n;int main(){for(int i=0;i<3;i++){for(int k=n;k<2;k++)put(k);n=1;}}", NOTHING, 0, 1, 1, 1);
        Due.output("void f(int n){int x;byte y[5];int z[2];put(x);put(y[4]);put(z[1]);x=n;y[4]=n;z[1]=n;if(n)f(n-1);put(x);put(y[4]);put(z[1]);}int main(){f(1);f(0);}",
                NOTHING, 0, 0, 0, 0, 0, 0, 0, 0, 0, 1, 1, 1, 0, 0, 0, 0, 0, 0);
        // What another function has left there is not seen.
        Due.output("void g(){int a[50];for(int i=0;i<50;i++)a[i]=-1;}void f(int p){int a[20];byte b[40];int s;for(int i=0;i<20;i++)s|=a[i]|b[i]|b[i+20];put(s);put(p);}int main(){g();f(3);g();f(4);}",
                NOTHING, 0, 3, 0, 4);
    }

    // "An array as E of a CALL is the caller's own"

    private static void theCallersOwn() {
        for (String kind : new String[] {"int", "byte"}) {
            String f = "void f(" + kind + " p[],int i){p[i]+=i+1;}void g(int i," + kind + " p[]){f(p,i);f(p,0);}";
            String show = "put(a[0]);put(a[1]);put(a[2]);";
            Due.output(kind + " a[3];" + f + "int main(){f(a,2);g(1,a);" + show + "}", NOTHING, 1, 2, 3);
            Due.output(f + "int main(){" + kind + " b[3];" + kind + " a[3];f(a,2);g(1,a);" + show + "put(b[0]|b[1]|b[2]);}", NOTHING, 1, 2, 3, 0);
            Due.output(kind + " a[1];" + kind + " b[2];int f(" + kind + " p[]," + kind + " q[]){p[0]=3;q[1]=4;return q[0]+p[0];}int main(){put(f(a,b));put(f(b,b));put(b[0]);put(b[1]);put(a[0]);}", NOTHING, 3, 6, 3, 4, 3);
            // So many elements as the caller's has.
            for (int n = 1; n <= 9; n += 4) {
                index(kind + " a[" + n + "];int f(" + kind + " p[]){return p@[get()];}int main(){" + kind + " z[20];f(a);}", n - 1, false);
                index(kind + " a[" + n + "];int f(" + kind + " p[]){return p@[get()];}int main(){" + kind + " z[20];f(a);}", n, true);
                index("int f(" + kind + " p[]){return p@[get()];}int g(" + kind + " p[]){int z[9];return f(p);}int main(){" + kind + " a[" + n + "];" + kind + " z[20];g(a);}", n - 1, false);
                index("int f(" + kind + " p[]){return p@[get()];}int g(" + kind + " p[]){int z[9];return f(p);}int main(){" + kind + " a[" + n + "];" + kind + " z[20];g(a);}", n, true);
            }
        }
        // Ints are not.
        Due.output("int v=1;void f(int p){p=5;v+=p;}int main(){int x=2;f(x);put(x);f(v);put(v);}", NOTHING, 2, 11);
    }

    /** What is worked out ahead of a CALL waits for it, however many do, and whatever is told and left there. */
    private static void valuesThatWait() {
        Due.output("int f(int p){int x;int y[2];byte z[3];for(int i=0;i<3;i++){int w;put(w+x+y[1]+z[2]);w=5;if(i==p)return i;}}int main(){put(100+f(1)*10+f(9));int a[3];a[f(0)+1]=7+f(0);put(a[1]);}",
                NOTHING, 0, 0, 0, 0, 0, 110, 0, 0, 7);
        Due.output("int g(int a,int b,int c,int d){return a*1000+b*100+c*10+d;}int one(){int x;x=x+1;return x;}int main(){put(g(one(),2,one()+2,g(0,0,0,4)));}", NOTHING, 1234);
        String f = "int f(int n){if(n==0)return 0;return n+(n+(n+(n+(n+(n+(n+f(n-1)))))));}int main(){put(f(get()));}";
        for (int n : new int[] {1, 2, 140, 150, 398}) {
            Due.output(f, new int[] {n}, 7L * n * (n + 1) / 2);
        }
        String open = "1|1^1&1==1<1<<1+1*(".repeat(36);
        Due.output("int n;int f(){n++;if(n>450)return n;return " + open + "f()" + ")".repeat(36) + ";}int main(){put(f()!=0);put(n);}", NOTHING, 1, 451);
    }

    // "(an else is of the nearest if)"

    private static void elseOfTheNearestIf() {
        for (int a = 0; a <= 1; a++) {
            for (int b = 0; b <= 1; b++) {
                String tail = "put(4);}";
                String head = "int main(){int a=get();int b=get();";
                int[] input = {a, b};
                Due.output(head + "if(a)if(b)put(1);else put(2);" + tail, input, a == 0 ? new long[] {4} : new long[] {b == 1 ? 1 : 2, 4});
                Due.output(head + "if(a){if(b)put(1);}else put(2);" + tail, input, a == 0 ? new long[] {2, 4} : b == 1 ? new long[] {1, 4} : new long[] {4});
                Due.output(head + "if(a)if(b)put(1);else put(2);else put(3);" + tail, input, a == 0 ? 3 : b == 1 ? 1 : 2, 4);
                Due.output(head + "if(a)put(1);else if(b)put(2);else put(3);" + tail, input, a == 1 ? 1 : b == 1 ? 2 : 3, 4);
                Due.output(head + "if(a)while(b){if(0);else b=0;put(5);}else put(6);" + tail, input, a == 0 ? new long[] {6, 4} : b == 1 ? new long[] {5, 4} : new long[] {4});
                Due.output(head + "if(a)for(;b;b--)if(b)put(5);else put(6);" + tail, input, a == 1 && b == 1 ? new long[] {5, 4} : new long[] {4});
            }
        }
    }

    // "for: START, then as while with E (none: true), SIMPLE behind each time (behind continue, too)"

    private static void forLoops() {
        String t = "int t(int n){put(n);return n;}int i;";
        Due.output(t + "int main(){for(i=t(0);t(i)<2;i=t(i+1))t(50);}", NOTHING, 0, 0, 50, 1, 1, 50, 2, 2);
        Due.output(t + "int main(){for(i=t(0);t(i)<2;i=t(i+1)){if(1)continue;t(50);}}", NOTHING, 0, 0, 1, 1, 2, 2);
        Due.output(t + "int main(){for(i=t(0);t(i)<2;i=t(i+1)){if(i)break;t(50);}put(i);}", NOTHING, 0, 0, 50, 1, 1, 1);
        Due.output(t + "int main(){for(i=t(5);t(0);i=t(9))t(50);}", NOTHING, 5, 0);
        Due.output(t + "int main(){for(;;){i++;if(i==3)break;put(i);}for(;i<5;)i++;put(i);for(i=0;;i++)if(i==2)return 0;}", NOTHING, 1, 2, 5);
        Due.output(t + "int main(){while(t(i)<2){i++;if(i==1)continue;put(70);}do{i--;if(i)continue;put(80);}while(t(i));}", NOTHING, 0, 1, 70, 2, 1, 80, 0);
        Due.output("int main(){for(int i=0;i<2;i++)for(int k=0;k<3;k++){if(k==1)continue;if(i)break;put(i*10+k);}}", NOTHING, 0, 2);
        Due.output("int main(){int n;do n++;while(0);put(n);while(0)n++;put(n);for(;0;)n++;put(n);}", NOTHING, 1, 1, 1);
    }

    /** break and continue are of the innermost loop, ahead of an inner one as behind it. */
    private static void loopsInLoops() {
        String[] loops = {"while(%n()<4){$}", "do{$}while(%n()<4);", "for(;%n()<4;){$}", "for(int t=0;t<1||%n()<4;t++){$}"};
        for (int outer = 0; outer < loops.length; outer++) {
            for (int inner = 0; inner < loops.length; inner++) {
                for (int where = 0; where < 8; where++) {
                    String leap = where % 2 == 0 ? "break;" : "continue;";
                    String innerBody = "put(20+i);" + (where / 2 == 2 ? "if(i==2)" + leap : "") + "put(30+i);" + (where / 2 == 3 ? "if(i==3){put(99);" + leap + "}" : "");
                    String outerBody = "put(o);" + (where / 2 == 0 ? "if(o==2)" + leap : "") + "i=0;" + loops[inner].replace("%", "i").replace("$", innerBody)
                            + "put(40+o);" + (where / 2 == 1 ? "if(o==2)" + leap : "") + "put(50+o);";
                    String text = "int o;int i;int on(){o++;return o;}int in(){i++;return i;}int main(){" + loops[outer].replace("%", "o").replace("$", outerBody) + "put(60);}";
                    Oracle.Run due = new Oracle(text).new Run(2000, 1000, new java.util.ArrayList<>()).go();
                    long[] numbers = new long[due.output.size()];
                    for (int k = 0; k < numbers.length; k++) {
                        numbers[k] = due.output.get(k);
                    }
                    Due.output(text, NOTHING, numbers);
                }
            }
        }
        Due.output("int main(){int i;while(1){i++;if(i==2)continue;if(i==5)break;while(1){if(i==1)break;put(i);break;}put(10+i);if(i==3)continue;put(20+i);}put(i);}",
                NOTHING, 11, 21, 3, 13, 4, 14, 24, 5);
        Due.output("int main(){for(int i=0;i<3;i++){if(i==0)continue;for(int k=0;k<3;k++){if(k==0)continue;if(k==2)break;put(i*10+k);}if(i==1)continue;put(50);}}", NOTHING, 11, 21, 50);
        Due.output("int main(){int i;do{i++;do{if(i==2)break;put(i);}while(0);if(i==3)break;if(i==1)continue;put(20+i);}while(i<9);put(i);}", NOTHING, 1, 22, 3, 3);
    }

    // "return without E, and the end of a function's BLOCK: 0"

    private static void results() {
        Due.output("int f(int n){if(n)return n;}int main(){put(f(5));put(f(0));put(f(-1)+f(0));}", NOTHING, 5, 0, -1);
        Due.output("int f(int n){while(n){if(n==3)return 33;n--;}}int main(){put(f(9));put(f(2));put(f(3));}", NOTHING, 33, 0, 33);
        Due.output("void v(){return;}int f(){v();put(1);v();}int main(){put(7+f()*2);}", NOTHING, 1, 7);
        Due.output("int f(){return 2147483648;}int g(){return -1;put(5);}int main(){put(f());put(g());}", NOTHING, LEAST, -1);
        for (int n : new int[] {0, 1, -1, LEAST, MOST}) {
            CompiledHouse x = Due.house("int main(){return get();}");
            x.give(n);
            x.begin(4);
            Due.be("run", x.run(0), 3);
            Due.be("value", x.world(4), n);
        }
        for (String text : new String[] {"int main(){}", "void main(){}", "void main(){return;}", "int f(){return 4;}int main(){f();}", "int main(){if(0)return 5;}"}) {
            CompiledHouse x = Due.house(text);
            x.begin(20);
            Due.be("run", x.run(1), 3);
            Due.be("value of " + text, x.world(4), 0);
        }
        // main may be called, too: that does not end the run.
        Due.output("int n;int main(){n++;if(n<3){put(main()+n);}put(50);return n;}", NOTHING, 50, 6, 50, 6, 50);
    }
}
