/** Promise 4: read, with each kind of fault, its edges, and texts that have none. */
public final class FaultsTest {
    private static final String MAIN = "int main(){}";

    public static void main(String[] args) {
        whatReadLeaves();
        noToken();
        misplaced();
        misplacedStatements();
        tooDeep();
        unknown();
        toldTwice();
        misused();
        wrongArguments();
        noValue();
        noLoop();
        notConstant();
        tooMuch();
        wrongMain();
        whichIsFirst();
        Due.done();
    }

    private static void whatReadLeaves() {
        CompiledHouse x = new CompiledHouse();
        Due.be("read of nothing", x.read(), 12);
        Due.be("read", Due.read(x, "int g=5;int main(){put(get());put(get());}"), 0);
        x.give(1);
        x.begin(50);
        x.run(5);
        x.give(2);
        x.give(3);
        Due.be("output", x.world(2), 1);
        Due.be("read with a fault", Due.read(x, "int main(){x=1;}"), 11 * 16 + 4);
        int[] world = {0, 0, 0, 0, 0, -1, 0, 0, -1};
        for (int what = 0; what < world.length; what++) {
            Due.be("world " + what + " without a run", x.world(what), world[what]);
        }
        Due.be("no output", x.output(0), 0);
        Due.be("no program", x.look(0, 0), -1);
        Due.be("no program", x.give(1), -1);
        Due.be("no program", x.begin(100), false);
        Due.be("no program", x.run(1), -1);
        Due.be("no program", x.global(0), 0);
        Due.be("the tape is empty", x.end(1), -1);
        Due.be("read", Due.read(x, MAIN), 0);
        Due.be("no input", x.world(3), 0);
        Due.be("functions", x.look(0, 0), 1);
        Due.be("no run", x.run(1), -1);
        x.give(4);
        x.begin(10);
        Due.be("read", Due.read(x, "int main(){put(1);}"), 0);
        Due.be("no run", x.world(0), 0);
        Due.be("no input", x.world(3), 0);
        Due.be("no limit", x.world(7), 0);
    }

    private static void noToken() {
        for (char c : new char[] {0, 9, 11, 12, 13, 31, 33 + 1, '#', '$', '\'', '.', '\\', '`', '"', 127, 128, 160, 255}) {
            Due.fault("@" + c, 1);
            Due.fault("int main(){}@" + c, 1);
        }
        Due.fault("int @abcdefghijklmnopq;", 1);
        Due.fine("int abcdefghijklmnop;" + MAIN);
        Due.fine("int _bcdefghijk_9Z;int _;int __;int Int;int iff;int in;int intx;" + MAIN);
        Due.fault("int a=@4294967296;" + MAIN, 1);
        Due.fault("int a=@9999999999;" + MAIN, 1);
        Due.fault("int a=@00000000001;" + MAIN, 1);
        Due.fine("int a=4294967295;int b=0000000001;int c=09;" + MAIN);
        for (String bad : new String[] {"0x", "0X1", "0x123456789", "0xg", "1a", "1_", "0x1g", "0x1_", "00x1", "1x", "0b1", "1e5"}) {
            Due.fault("int a=@" + bad + ";" + MAIN, 1);
        }
        Due.fine("int a=0xABCDEFab;int b=0x0;int c=0xffffffff;" + MAIN);
        Due.fault("int main(){}@/*", 1);
        Due.fault("int main(){}@/* *", 1);
        Due.fault("int main(){}@/*/", 1);
        Due.fault("int main(){} /**/ @/* / * /", 1);
        Due.fault("@/*", 1);
        Due.fine("/**/int/***/main/*/*/(/* // */){}// /*");
        Due.fine("//\n//x\nint main(){}//");
        Due.fault("int main(){}@/", 2);
    }

    private static void misplaced() {
        Due.fault("@x", 2);
        Due.fault("@;", 2);
        Due.fault("@5", 2);
        Due.fault("@{}", 2);
        Due.fault("int@", 2);
        Due.fault("int @int;", 2);
        Due.fault("int @5;", 2);
        Due.fault("int a@", 2);
        Due.fault("int a@,b;", 2);
        Due.fault("int a@}", 2);
        Due.fault("int a=@;", 2);
        Due.fault("int a=1@", 2);
        Due.fault("int a=1@,", 2);
        Due.fault("int a=@{1};", 2);
        Due.fault("int a@+=1;", 2);
        Due.fault("byte a@;", 2);
        Due.fault("byte a@=1;", 2);
        Due.fault("byte a@(){}", 2);
        Due.fault("void a@;", 2);
        Due.fault("void a@[1];", 2);
        Due.fault("void @(", 2);
        Due.fault("const @byte a[1];", 2);
        Due.fault("const @void f(){}", 2);
        Due.fault("const @a=1;", 2);
        Due.fault("const int a@;", 2);
        Due.fault("const int a@[1];", 2);
        Due.fault("const int a@(){}", 2);
        Due.fault("int a[@];", 2);
        Due.fault("int a[1@,2];", 2);
        Due.fault("int a[1]@", 2);
        Due.fault("int a[1]@[2];", 2);
        Due.fault("int a[1]=@1;", 2);
        Due.fault("int a[1]={@};", 2);
        Due.fault("int a[1]={1,@};", 2);
        Due.fault("int a[1]={1@;", 2);
        Due.fault("int a[1]={1}@", 2);
        Due.fault("int f(@,){}", 2);
        Due.fault("int f(@a){}", 2);
        Due.fault("int f(@void){}", 2);
        Due.fault("int f(int@){}", 2);
        Due.fault("int f(int a,@){}", 2);
        Due.fault("int f(int a @int b){}", 2);
        Due.fault("int f(byte a@){}", 2);
        Due.fault("int f(byte a@,int b){}", 2);
        Due.fault("int f(int a[@1]){}", 2);
        Due.fault("int f(int a[]@[]){}", 2);
        Due.fault("int f(int a@=1){}", 2);
        Due.fault("int f()@;", 2);
        Due.fault("int f(){@", 2);
        Due.fault("int f(){}@}", 2);
        Due.fault("int f(){}@;", 2);
    }

    private static void misplacedStatements() {
        String[] wrong = {
            "@else;", "@const int a=1;", "@void x;", "@5;", "@)", "@get();", "@-a;", "@(a)=1;", "a@;", "a@+1;", "a@==1;", "a=@;",
            "a=1@)", "a@?1:2;", "a[@]=1;", "a[1]@;", "a[1]@(2);", "a[1]@[2]=3;", "a(@,);", "a(1,@);", "a(1@;", "a()@=1;",
            "a()@++;", "a++@++;", "a++@+;", "@++a;", "a=@++b;", "a=b@++;", "a=b@=c;", "if @a;", "if(@)a;", "if(a)@}", "if(a);else@}",
            "if(a);;@else;", "if(a){}else{}@else;", "while(a@;", "while(@);", "do;@}", "do;while(a)@}", "do;while(@);",
            "do a=1;@a=2;", "for(@){}", "for(;@)", "for(;;@;)", "for(int i@;;);", "for(int i@,;;);", "for(int i@[3];;);",
            "for(@byte i[3];;);", "for(int i=0@,j=0;;);", "for(a@;;);", "for(;;a@);", "for(;;@int i=0);", "for(;@int i=0;);", "for(@{};;);", "for(;;@put(1));",
            "break @1;", "break@}", "continue@)", "return@)", "return 1@,2;", "return@}", "put @1;", "put(@);", "put(1)@}", "put(1@,2);",
            "halt(@);", "halt@;", "int@;", "int a@,b;", "int a=@;", "int a@(){}", "int a[@];", "int a[1]@={1};", "byte b@;", "byte b@=1;",
            "a=1 @2;", "a=1 @b;", "a=(1@;", "a=(@);", "a=1+@;", "a=1+*@2;".replace("*@", "@*"), "a=!@;", "a=1!@2;".replace("!@", "@!"), "a=b?1@;", "a=b?@:1;", "a=b?1:@;",
            "a=b?1:2@:3;", "a=get@;", "a=get(@1);", "a=@put(1);", "a=@int;", "a=@[1];", "a=b[1@;", "a=b[1@)", "a=1@]", "a=f(1@]", "@=1;", "@[1]=1;",
            "a @b;", "a=b@{}"};
        for (String statement : wrong) {
            Due.fault("int main(){" + statement, 2);
        }
        Due.fine("int a;int main(){;;{}{;}if(a);if(a);else;if(a)if(a);else;else;while(0);do;while(0);for(;0;);for(a=1;0;a++);"
                + "for(int i=0;0;i--)int i;if(0)int b;else int b;while(0)int c[3];a+=1;a=-~!-1;a=1- -1;a=(1);return 1?2:3?4:5;}");
        Due.fault("int main(){int a;a=1--@1;}".replace("--@", "@--"), 2);
    }

    private static void tooDeep() {
        String open = "int a;int main(){a=";
        Due.fine(open + Due.times("(", 39) + "1" + Due.times(")", 39) + ";}");
        Due.fault(open + Due.times("(", 39) + "@(1", 3);
        Due.fault(open + Due.times("(", 39) + "@)", 2);
        Due.fine(open + Due.times("1?", 39) + "1" + Due.times(":1", 39) + ";}");
        Due.fault(open + Due.times("1?", 39) + "1@?", 3);
        Due.fine(open + Due.times("1?1:", 39) + "1;a=" + Due.times("1?1:", 39) + "1;}");
        Due.fault(open + Due.times("1?1:", 39) + "1@?1:1;}", 3);
        Due.fine(open + Due.times("(1?1:1)+", 100) + "1;}");
        Due.fine("int a[9];int main(){a[0]=" + Due.times("a[", 39) + "0" + Due.times("]", 39) + ";}");
        Due.fault("int a[9];int main(){a[0]=" + Due.times("a[", 39) + "a@[0", 3);
        Due.fine("int main(){" + Due.times("{", 39) + Due.times("}", 39) + "}");
        Due.fault("int main(){" + Due.times("{", 39) + "@{", 3);
        Due.fine("int main(){" + Due.times("if(1)", 38) + ";}");
        Due.fault("int main(){" + Due.times("if(1)", 38) + "if@(1);}", 3);
        Due.fault("int main(){" + Due.times("if(1)", 37) + "if(@(1));}", 3);
        Due.fine("int main(){" + Due.times("if(1);else ", 38) + ";}");
        Due.fault("int main(){" + Due.times("if(1);else ", 38) + "if@(1);}", 3);
        Due.fault("int main(){" + Due.times("if(1);else ", 38) + "{@{}}", 3);
        Due.fine("int main(){" + Due.times("if(1);", 60) + "}");
        Due.fine("int main(){" + Due.times("while(1)", 38) + ";}");
        Due.fault("int main(){" + Due.times("while(1)", 38) + "while@(1);}", 3);
        Due.fault("int main(){" + Due.times("while(1)", 38) + "{@while(1);}", 3);
        Due.fault("int main(){" + Due.times("do ", 39) + "@do;", 3);
        Due.fault("int main(){" + Due.times("do ", 39) + "; while@(1);", 3);
        Due.fine("int main(){" + Due.times("do ", 38) + ";" + Due.times("while(0);", 38) + "}");
        Due.fine("int main(){" + Due.times("for(;;)", 38) + ";}");
        Due.fault("int main(){" + Due.times("for(;;)", 38) + "for@(;;);}", 3);
        Due.fault("int main(){" + Due.times("for(;;)", 38) + "{@for(;;);}", 3);
        Due.fault("int main(){" + Due.times("{", 38) + "f(@(1));}", 3);
        Due.fine("int f(){}int main(){" + Due.times("f();", 90) + "}");
        Due.fault("int main(){" + Due.times("{", 38) + "int a=get();a=get()+get()+(@(1));}", 3);
        Due.fault("int a[" + Due.times("(", 39) + "@(1", 3);
        Due.fault("int a[1]={" + Due.times("(", 39) + "@(1", 3);
    }

    private static void unknown() {
        Due.fault("int main(){@x=1;}", 4);
        Due.fault("int main(){int x=@x;}", 4);
        Due.fault("int main(){@x();}", 4);
        Due.fault("int main(){@x[1]++;}", 4);
        Due.fault("int main(){put(@x);}", 4);
        Due.fault("int a=@a;" + MAIN, 4);
        Due.fault("const int a=@b;const int b=1;" + MAIN, 4);
        Due.fault("int a[@a];" + MAIN, 4);
        Due.fault("int a[2]={1,@a};" + MAIN, 4);
        Due.fault("int main(){@g=1;}int g;", 4);
        Due.fine("int main(){f();}void f(){}");
        Due.fine("int g;int main(){g=1;}");
        Due.fault("int main(){{int x;}@x=1;}", 4);
        Due.fault("int main(){if(1)int x;@x=1;}", 4);
        Due.fault("int main(){if(1)int x;else @x=1;}", 4);
        Due.fault("int main(){for(int i=0;i<1;i++);@i=1;}", 4);
        Due.fine("int main(){for(int i=0;i<1;i++)i=2;}");
        Due.fault("int main(){do int x;while(@x);}", 4);
        Due.fault("int main(){while(1)int x;put(@x);}", 4);
        Due.fault("int main(){for(int i=@i;;);}", 4);
        Due.fault("int f(int p){}int main(){put(@p);}", 4);
        Due.fault("int main(){int x[@x];}", 4);
        Due.fault("int f(int a[]){}int main(){f(@x);}", 4);
        Due.fault("int f(){}int main(){f(@x);}", 4);
        Due.fault("void f(){return @x;}" + MAIN, 4);
        Due.fault("const int a=0&&@x;" + MAIN, 4);
        Due.fault("const int a=1?2:@x();" + MAIN, 4);
    }

    private static void toldTwice() {
        Due.fault("int a;int @a;" + MAIN, 5);
        Due.fault("const int a=1;byte @a[1];" + MAIN, 5);
        Due.fault("int main(){}int @main;", 5);
        Due.fault("int main;int @main(){}", 5);
        Due.fault("int f(){}void @f(int a){}" + MAIN, 5);
        Due.fault("int f(int a,int @a){}" + MAIN, 5);
        Due.fault("int f(int a){int @a;}" + MAIN, 5);
        Due.fine("int f(int a){{int a;}}" + MAIN);
        Due.fine("int f(int f){int main;}" + MAIN);
        Due.fault("int main(){int a;int @a[2];}", 5);
        Due.fine("int a;int main(){int a;{int a;for(int a=0;0;)int a;}}");
        Due.fine("int main(){if(1)int a;else int a;int a;}");
        Due.fault("int main(){for(int a=0;;){int a;int @a;}}", 5);
        Due.fault("int main(){int a=1;put(a);byte @a[3];}", 5);
        // Of two of one scope the one told first is meant.
        Due.fault("int main(){@x();}int x;int x(){}".replace("@", ""), 5, "int main(){x();}int x;int ".length());
        Due.fault("int x;int main(){@x();}int x(){}", 6);
        Due.fault("int x(){}int main(){x();}int @x;", 5);
    }

    private static void misused() {
        String globals = "const int c=1;int i;int a[2];byte b[2];int f(int p){return 1;}void v(){}int g(int p[]){return 1;}";
        String[] wrong = {
            "put(@a);", "put(@b);", "put(@i[0]);", "put(@c[0]);", "put(@f[0]);", "put(@f);", "put(@v);", "put(@i(1));", "put(@a(1));",
            "put(@c());", "@c=1;", "@c++;", "@c+=1;", "@a=1;", "@b--;", "@a+=1;", "@f=1;", "@v=1;", "@f++;", "@i[0]=1;", "@c[0]=1;", "@f[0]=1;",
            "@i();", "@a();", "@c(1);", "f(@a);", "f(@f);", "i=@a;", "i=1+@b;", "return @a;", "if(@a);", "while(@f);", "for(;@b;);", "a[@a]=1;",
            "a[0]=@a;", "int x=@a;", "put(1?@a:1);", "put(-@v);"};
        for (String statement : wrong) {
            Due.fault(globals + "int main(){" + statement + "}", 6);
        }
        Due.fine(globals + "int main(){i=c;a[0]=b[1];b[i]=a[c];f(a[1]);g(a);v();i=f(f(1))+g(a);f(i);}");
    }

    private static void wrongArguments() {
        String globals = "const int c=1;int i;int a[2];byte b[2];int f(int p,int q){return 1;}void v(){}int g(int p[],byte q[]){g(p,q);return 1;}";
        String[] wrong = {
            "f(@);", "f(1@);", "f(1,2,@3);", "f(1,2,@a);", "f(1,2,@3,x);", "f(1,2,@(3));", "f(1,2,@v());", "v(@1);", "v(@a);", "v(@-1);",
            "g(@b,b);", "g(a,@a);", "g(@1,b);", "g(@(a),b);", "g(@a[0],b);", "g(@a+1,b);", "g(@i,b);", "g(@c,b);", "g(@f,b);", "g(@v,b);", "g(@v(),b);",
            "g(@-a,b);", "g(@get(),b);", "g(@a?1:2,b);", "g(@b);", "g(a@);", "g(@);", "put(f(1@));", "i=v(@1);".replace("i=v", "v"), "f(f(1@),2);", "f(1,f(1,2,@3));"};
        for (String statement : wrong) {
            Due.fault(globals + "int main(){" + statement + "}", 7);
        }
        Due.fine(globals + "int main(){f(1,2);f(f(1,2),(a[0]));g(a,b);int x[3];byte y[4];g(x,y);put(g(x,b));}");
        Due.fault("int main(){f(1@);}void f(int a,int b[]){}", 7);
        Due.fault("int main(){f(@1,2);}void f(byte a[],int b){}", 7);
        Due.fault(globals + "int main(){f(1,2,@x);}", 4);
        Due.fault(globals + "int main(){g(@x,b);}", 4);
        Due.fault(globals + "int main(){g(a,@x[1]);}", 4);
        // More FORMALs than four may be called, too.
        Due.fault("int main(){f(1,2,3,4,5);}int f(int a,int b,int c,int d,int @e){}", 11);
        Due.fault("int main(){f(1,2,3,4@);}int f(int a,int b,int c,int d,int e){}", 7);
    }

    private static void noValue() {
        String v = "int a[2];int f(int p){return 1;}void v(){}void w(int p){}";
        String[] wrong = {
            "put(@v());", "int x=@v();", "a[@v()]=1;", "f(@v());", "return @v();", "return@;", "if(@w(1));", "a[0]=1+@w(2);", "a[0]=-@v();",
            "a[0]=1?2:@v();", "a[0]=(@v());", "a[0]=0&&@v();"};
        for (String statement : wrong) {
            Due.fault(v + "int main(){" + statement + "}", 8);
        }
        Due.fault(v + "void main(){return @1;}", 8);
        Due.fault(v + "void main(){return @-x;}", 8);
        Due.fault(v + "void main(){return @a;}", 8);
        Due.fault(v + "void main(){return @(a);}", 8);
        Due.fault(v + "void main(){return @v();}", 8);
        Due.fault(v + "void main(){return @f;}", 8);
        Due.fine(v + "void main(){v();w(1);for(v();0;v());return;}");
        Due.fine("int main(){if(0)return 1;}");
        Due.fault(v + "const int c=@v();" + MAIN, 8);
    }

    private static void noLoop() {
        Due.fault("int main(){@break;}", 9);
        Due.fault("int main(){@continue;}", 9);
        Due.fault("int main(){if(1)@break;}", 9);
        Due.fault("int main(){while(0);@break;}", 9);
        Due.fault("int main(){do;while(0);{@continue;}}", 9);
        Due.fault("int main(){for(;;);@continue;}", 9);
        Due.fault("void f(){while(1)break;}void g(){@break;}" + MAIN, 9);
        Due.fine("int main(){while(1)break;do{continue;}while(0);for(;;){if(1)break;else continue;}while(1){{{break;}}}}");
    }

    private static void notConstant() {
        String globals = "const int c=3;int i;int a[2];int f(){return 1;}";
        String[] wrong = {"@i", "@a", "@f", "@f()", "@a[0]", "@c[0]", "@c()", "@get()", "1+@i", "c?1:@i", "1||@i", "-@f()", "(@i)", "c+@c(1)", "@main"};
        for (String e : wrong) {
            Due.fault(globals + "const int x=" + e + ";" + MAIN, 10);
            Due.fault(globals + "int x=" + e + ";" + MAIN, 10);
            Due.fault(globals + "int x[" + e + "];" + MAIN, 10);
            Due.fault(globals + "byte x[3]={1," + e + "};" + MAIN, 10);
            Due.fault(globals + "int main(){int x[" + e + "];}", 10);
        }
        Due.fault("int main(){int n;int x[@n];}", 10);
        Due.fault("int f(int n){byte x[@n];}" + MAIN, 10);
        Due.fault("const int n=2;int main(){int n;int x[@n];}", 10);
        Due.fine("const int n=2;int main(){int x[n];int n;}");
        for (String n : new String[] {"0", "501", "-1", "0-1", "c-3", "(0)", "500+1", "4294967295", "1<<9", "0x80000000", "!c", "c?0:1"}) {
            Due.fault("const int c=3;int x[@" + n + "];" + MAIN, 10);
            Due.fault("const int c=3;int main(){byte x[@" + n + "];}", 10);
        }
        for (String n : new String[] {"1", "500", "c*100", "c-2", "(500)", "c?1:0", "0||c", "5/0+2", "7%0", "-1>>>23&255"}) {
            Due.fine("const int c=3;byte x[" + n + "];" + MAIN);
        }
        Due.fault("int x[2]={1,2,@3};" + MAIN, 10);
        Due.fault("int x[2]={1,2,@-3,4};" + MAIN, 10);
        Due.fault("byte x[1]={1,@(2)};" + MAIN, 10);
        Due.fault("byte x[1]={1,@y};" + MAIN, 4);
        Due.fine("int x[2]={1,2};int y[2]={1};" + MAIN);
        Due.fault("int x[@0]={1,2,3};" + MAIN, 10);
        Due.fault("int x[@y]={1,2,3};" + MAIN, 4);
    }

    private static void tooMuch() {
        StringBuilder forty = new StringBuilder();
        for (int i = 0; i < 39; i++) {
            forty.append("int f").append(i).append("(){}");
        }
        Due.fine(forty + MAIN);
        Due.fault(forty + MAIN + "void @g(){}", 11);
        Due.fault(forty + MAIN + "void @g(){}void h(){}", 11);
        Due.fault(forty + MAIN + "void @f0(){}", 5);
        Due.fine("int f(int a,int b[],byte c[],int d){}" + MAIN);
        Due.fault("int f(int a,int b[],byte c[],int d,int @e){}" + MAIN, 11);
        Due.fault("int f(int a,int b[],byte c[],int d,byte @e[],int f){}" + MAIN, 11);
        String full = "int a[500];int b[500];int c[500];int d[500];";
        Due.fine(full + "const int e=1;" + MAIN);
        Due.fault(full + "int @e;" + MAIN, 11);
        Due.fault(full + "int @e=1;int f;" + MAIN, 11);
        Due.fault(full + "byte @e[1];" + MAIN, 11);
        Due.fault("int a[500];int b[500];int c[500];int d[496];byte e[12];byte f[4];byte @g[1];" + MAIN, 11);
        Due.fine("int a[500];int b[500];int c[500];int d[496];byte e[12];byte f[4];" + MAIN);
        Due.fault("int a[500];int b[500];int c[500];int d[496];byte @e[17];" + MAIN, 11);
        Due.fault(full + "int e[@501];" + MAIN, 10);
        Due.fault(full + "int e[@x];" + MAIN, 4);
        Due.fault(full + "int e[@get()];int f;" + MAIN, 10);
        Due.fault(full + "int @e[1]={2,3};" + MAIN, 11);
        Due.fine("int main(){int a[199];int b;}int f(){int a[200];}");
        Due.fault("int main(){int a[200];int @b;}", 11);
        Due.fault("int main(){int @a[201];}", 11);
        Due.fault("int main(){int a[200];int b[@0];int c;}", 10);
        Due.fine("int main(){byte a[500];int b[75];}");
        Due.fault("int main(){byte a[500];int b[75];byte @c[1];}", 11);
        Due.fault("int main(){{int a[100];}{int b[100];}for(int @i=0;;);}", 11);
        Due.fine("int f(int a,int b,int c,int d){int x[200];}" + MAIN);
        Due.fine("int main(){{int a[100];}{int b[99];}for(int i=0;;);}");
    }

    private static void wrongMain() {
        Due.fault("@", 12);
        Due.fault("int a; @", 12);
        Due.fault("int Main(){}@", 12);
        Due.fault("int main;@", 12);
        Due.fault("int f(int main){}//x\n@", 12);
        Due.fault("int main(@int a){}", 12);
        Due.fault("int main(@byte a[],int b){}", 12);
        Due.fault("void main(@int a[]){}", 12);
        Due.fault("int main(@int a,int a){}", 12);
        Due.fine("void main(){}");
        Due.fine("int main(){main();}");
    }

    private static void whichIsFirst() {
        // Faults of the grammar come ahead of all others, wherever they are.
        Due.fault("int main(){x=1;}@}", 2);
        Due.fault("int main(){x=1;}@$", 1);
        Due.fault("int main(){@}}$".replace("@}}", "}@}"), 2);
        Due.fault("int main(){x=@y;}".replace("x=@y", "@x=y"), 4);
        Due.fault("int main(){int a;@break;int a;x=1;}", 9);
        Due.fault("int main(){put(@x[y]);}", 4);
        Due.fault("int a;int main(){put(@a[y]);}", 6);
        Due.fault("int f(int @a,int a){}".replace("@a,int a", "a,int @a"), 5);
        Due.fault("int f(int a,int b,int c,int d,int @a){}" + MAIN, 5);
        Due.fault("int a;int @a[501];" + MAIN, 5);
    }
}
