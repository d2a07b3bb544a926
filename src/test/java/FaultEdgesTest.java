/** The edges of Terms 1, third part: scopes, CONSTANTS, and the faults 4 to 12, each sentence on its own. */
public final class FaultEdgesTest {
    private static final String MAIN = "int main(){}";
    private static final int[] NOTHING = {};

    public static void main(String[] args) {
        functionsAreKnownEverywhere();
        allElseIsKnownBehindItsTold();
        formalsAndStatementsAreOneScope();
        scopesOfTheirOwn();
        aForWithItsStart();
        knownBehindNotInItsOwnE();
        theInnermostIsMeant();
        ofTwoTheOneToldFirst();
        whereConstantsAre();
        constantsAreWorkedOut();
        allPartsAreLookedAt();
        toldAlready();
        misused();
        fewerAndMore();
        arraysForFormals();
        valuesOfVoid();
        returns();
        breaksAndContinues();
        noConst();
        sizesOf1To500();
        elementsBeyond();
        functionsUpTo40();
        formalsUpTo4();
        wordsUpTo2000();
        wordsUpTo200();
        wordsOfByteArrays();
        main();
        theFirstInTheText();
        ofOnePlaceTheLeast();
        Due.done();
    }

    // "All TOLDs are one scope, in which functions are known everywhere, all else behind its TOLD"

    private static void functionsAreKnownEverywhere() {
        Due.fine("int main(){f();}void f(){main();f();}");
        Due.fine("void f(){g();}void g(){f();}" + MAIN);
        Due.fault("int a=@f();int main(){}int f(){}", 10);
        Due.fault("int a=@f;int main(){}int f(){}", 10);
        Due.fault("const int a=@main;" + MAIN, 10);
        Due.fault("int main(){put(@f);}int f(){}", 6);
    }

    private static void allElseIsKnownBehindItsTold() {
        for (String told : new String[] {"int a;", "int a=1;", "const int a=1;"}) {
            Due.fine(told + "int main(){put(a);}");
            Due.fault("int main(){put(@a);}" + told, 4);
        }
        for (String told : new String[] {"int a[1];", "byte a[1];", "int a[1]={1};", "byte a[1]={1};"}) {
            Due.fine(told + "int main(){put(a[0]);}");
            Due.fault("int main(){put(@a[0]);}" + told, 4);
        }
        Due.fault("const int a=@a;" + MAIN, 4);
        Due.fault("int a=@a;" + MAIN, 4);
        Due.fault("int a[@a];" + MAIN, 4);
        Due.fault("int a[1]={@a};" + MAIN, 4);
        Due.fault("byte a[1]={@a[0]};" + MAIN, 4);
        Due.fine("const int a=1;const int b=a;int c=b;int d[a]={b};" + MAIN);
        Due.fault("const int b=@a;const int a=1;" + MAIN, 4);
    }

    // "The FORMALs and the STATEMENTs of a function's BLOCK are one"

    private static void formalsAndStatementsAreOneScope() {
        Due.fault("void f(int a){int @a;}" + MAIN, 5);
        Due.fault("void f(int a[]){int @a;}" + MAIN, 5);
        Due.fault("void f(byte a[]){byte @a[1];}" + MAIN, 5);
        Due.fault("void f(int a,int b){int c;int @b=1;}" + MAIN, 5);
        Due.fault("void f(){int a;int @a;}" + MAIN, 5);
        Due.fault("void f(){int a;a=1;{}int @a[2];}" + MAIN, 5);
        Due.fine("void f(int a){put(a);}void g(int a){int b=a;}" + MAIN);
        Due.fault("void f(int a){}void g(){put(@a);}" + MAIN, 4);
        Due.fault("void f(){int a;}void g(){put(@a);}" + MAIN, 4);
        // The TOLDs are another scope.
        Due.fine("int a;void f(int a){}void g(){int a;}" + MAIN);
        Due.fine("void f(int f){}void g(){int g;}void h(int main){}" + MAIN);
    }

    // "each other BLOCK, each STATEMENT of an if, else, while, do or for .. are scopes of their own"

    private static void scopesOfTheirOwn() {
        String[] around = {"{%}", "if(1){%}", "if(1);else{%}", "while(0){%}", "do{%}while(0);", "for(;0;){%}", "{{%}}", "if(1)%", "if(1);else %", "while(0)%", "do %while(0);", "for(;0;)%"};
        for (String scope : around) {
            String told = scope.replace("%", "int x;");
            Due.fault("int main(){" + told + "put(@x);}", 4);
            Due.fault("int main(){" + told + "{@x=1;}}", 4);
            Due.fine("int main(){" + told + told + "int x;" + told + "}");
            Due.fine("int main(){int x;" + told + "x=1;}");
            Due.fine("int x;int main(){" + told + "x=1;}");
            Due.fine("int main(){int x;" + scope.replace("%", "x=1;") + "}");
            Due.fine("void f(int x){" + told + "put(x);}" + MAIN);
            Due.fault("int main(){int x;" + told + "int @x;}", 5);
        }
        for (String scope : new String[] {"{%}", "if(1){%}", "if(1);else{%}", "while(0){%}", "do{%}while(0);", "for(;0;){%}"}) {
            Due.fault("int main(){" + scope.replace("%", "int x;int @x;") + "}", 5);
            Due.fine("int main(){" + scope.replace("%", "int x;{int x;}x=1;") + "}");
            Due.fine("int main(){" + scope.replace("%", "int x;x=1;") + "}");
        }
        Due.fault("int main(){if(1)int x;else put(@x);}", 4);
        Due.fault("int main(){if(1){int x;}else{put(@x);}}", 4);
        Due.fine("int main(){if(1)int x;else int x;}");
        Due.fault("int main(){do int x;while(@x);}", 4);
        Due.fault("int main(){do{int x;}while(@x);}", 4);
        Due.fault("int main(){for(;0;@x=1)int x;}", 4);
    }

    // "and a for with its START (which ends with it)"

    private static void aForWithItsStart() {
        Due.fine("int main(){for(int i=0;i<1;i++)put(i);}");
        Due.fault("int main(){for(int i=0;i<1;i++)put(i);put(@i);}", 4);
        Due.fault("int main(){for(int i=0;0;);int i;{put(i);}for(;0;@j++);}", 4);
        Due.fine("int main(){for(int i=0;0;);for(int i=0;0;);int i;for(int i=0;0;);}");
        Due.fine("int main(){for(int i=0;0;)int i;}");
        Due.fine("int main(){for(int i=0;0;){int i;}}");
        Due.fine("int main(){int i;for(int i=0;0;)for(int i=0;0;)int i;}");
        Due.fault("int main(){for(int i=0;0;){int i;int @i;}}", 5);
        Due.fine("void f(int i){for(int i=0;0;);}" + MAIN);
        Due.fault("int main(){for(int i=0;0;);@i=1;}", 4);
        Due.fault("int main(){if(1)for(int i=0;0;);else @i=1;}", 4);
    }

    // "What a STATEMENT or START tells is known behind it in its scope (not in its own E)"

    private static void knownBehindNotInItsOwnE() {
        Due.fault("int main(){put(@x);int x;}", 4);
        Due.fault("int main(){int x=@x;}", 4);
        Due.fault("int main(){int x=1+@x;}", 4);
        Due.fault("int main(){int x[@x];}", 4);
        Due.fault("int main(){for(int i=@i;0;);}", 4);
        Due.fault("int main(){for(int i=0;0;);for(int j=@i;0;);}", 4);
        Due.fine("int main(){int x;put(x);int y=x;}");
        Due.fine("int main(){for(int i=0;i;i=i)put(i);}");
        Due.output("int x=4;int main(){int x=x+1;put(x);}", NOTHING, 5);
        Due.output("const int x=3;int main(){byte x[x];x[2]=7;put(x[2]);}", NOTHING, 7);
        Due.output("int main(){int i=3;for(int i=i+1;i<6;i++)put(i);put(i);}", NOTHING, 4, 5, 3);
        Due.output("int f(){return 6;}int main(){int f=f();put(f);}", NOTHING, 6);
    }

    // "The innermost one of a NAME that is known there is meant"

    private static void theInnermostIsMeant() {
        Due.output("int x=1;void f(int x){put(x);{int x=3;put(x);}put(x);}int main(){put(x);f(2);put(x);int x=4;{put(x);int x=5;put(x);}put(x);}",
                NOTHING, 1, 2, 3, 2, 1, 4, 5, 4);
        Due.fault("int f(){}int main(){int f;@f();}", 6);
        Due.fine("int f(){}int main(){f();int f;f=1;}");
        Due.fine("int f(){}int main(){{int f;f=1;}f();}");
        Due.fault("int f(int f){@f(1);}" + MAIN, 6);
        Due.fault("int a[2];int main(){int a;@a[0]=1;}", 6);
        Due.fine("int a;int main(){int a[2];a[0]=1;}");
        Due.fault("const int a=1;int main(){int a;int b[@a];}", 10);
        Due.fine("const int a=1;int main(){int b[a];int a;}");
        Due.fault("const int a=1;void f(int a){int b[@a];}" + MAIN, 10);
        Due.fine("const int a=1;int main(){int a;a=2;}");
        Due.fault("const int a=1;int main(){{int a;}@a=2;}", 6);
    }

    // "(of two of one scope the one told first)"

    private static void ofTwoTheOneToldFirst() {
        Due.fault("int x;int main(){@x();}int x(){}", 6);
        Due.fault("int x;int main(){x=1;}int @x(){}", 5);
        Due.fault("int main(){x();}int x;int @x(){}", 5);
        Due.fault("int main(){@x=1;}int x;int x(){}", 6);
        Due.fault("int main(){x();}int x(){}int @x;", 5);
        Due.fault("int main(){@x=1;}int x(){}int x;", 6);
        Due.fault("int main(){f(1@);}void f(int a,int b){}void f(int a){}", 7);
        Due.fault("int main(){f(1);}void f(int a){}void @f(int a,int b){}", 5);
        Due.fault("int main(){put(@f());}void f(){}int f(){}", 8);
        Due.fault("int main(){put(f());}int f(){}void @f(){}", 5);
        Due.fault("const int x=1;int a[x];int main(){put(x);}int @x(){}", 5);
    }

    // "CONSTANTS are the E behind const int NAME = , and outside of functions behind = , in [ ] and in { },
    // in functions in the [ ] of KIND NAME [ E ]"

    private static void whereConstantsAre() {
        String head = "int v;int w[2];int f(){}";
        String[] constants = {
            "const int x=%;" + MAIN, "int x=%;" + MAIN, "int x[%];" + MAIN, "byte x[%];" + MAIN, "int x[2]={%};" + MAIN, "int x[2]={1,%};" + MAIN, "byte x[2]={%,1};" + MAIN,
            "int main(){int x[%];}", "int main(){byte x[%];}", "int main(){{while(1)int x[%];}}", "void g(int a){for(;;){byte x[%];}}" + MAIN};
        for (String text : constants) {
            Due.fine(head + text.replace("%", "1"));
            for (String e : new String[] {"@v", "@w[0]", "@f()", "@get()", "1+@v", "(@v)", "-@v", "@v?1:1", "1?@v:1", "1?1:@v", "0&&@v", "1||@v", "@w", "@f"}) {
                Due.fault(head + text.replace("%", e), 10);
            }
        }
        String[] others = {"int x=%;", "put(%);", "w[%]=1;", "put(w[%]);", "for(int i=%;0;);", "return %;", "v=%;", "if(%);", "while(%)break;", "put(h(%));", "halt(%);"};
        for (String statement : others) {
            for (String e : new String[] {"1", "v", "w[0]", "f()", "get()", "1+v", "v?v:v"}) {
                Due.fine(head + "int h(int a){}int main(){" + statement.replace("%", e) + "}");
            }
        }
    }

    // "they are worked out as 2. says"

    private static void constantsAreWorkedOut() {
        String[] es = {
            "2147483647+1", "-2147483648-1", "65536*65536", "65537*65537", "-7/2", "-7%2", "7/-2", "7%-2", "5/0", "5%0", "0/0", "0%0", "-2147483648/-1", "-2147483648%-1",
            "1<<31", "1<<32", "1<<33", "1<<-1", "-8>>1", "-8>>33", "-8>>>1", "-8>>>32", "-1>>>31", "3&&0", "3&&4", "0||0", "0||9", "!3", "!0", "~0", "- -5",
            "1?2:3", "0?2:3", "1<2", "2<=1", "2>1", "1>=2", "3==3", "3!=3", "6&3", "6|3", "6^3", "1+2*3", "(1+2)*3", "0?1/0:2", "1||1/0", "0&&5%0", "4294967295", "0x80000000>>31"};
        int[] due = {
            Integer.MIN_VALUE, Integer.MAX_VALUE, 0, 131073, -3, -1, -3, 1, -1, 5, -1, 0, Integer.MIN_VALUE, 0,
            Integer.MIN_VALUE, 1, 2, Integer.MIN_VALUE, -4, -4, 2147483644, -8, 1, 0, 1, 0, 1, 0, 1, -1, 5,
            2, 3, 1, 0, 1, 0, 1, 0, 2, 7, 5, 7, 9, 2, 1, 0, -1, -1};
        for (int k = 0; k < es.length; k++) {
            Due.output("const int c=" + es[k] + ";int g=" + es[k] + ";int a[2]={" + es[k] + ",c};byte b[2]={" + es[k] + ",c};int main(){put(c);put(g);put(a[0]);put(a[1]);put(b[0]);put(b[1]);put("
                    + es[k] + ");}", NOTHING, due[k], due[k], due[k], due[k], due[k] & 255, due[k] & 255, due[k]);
            int n = (due[k] & 255) + 1;
            String size = "((" + es[k] + ")&255)+1";
            CompiledHouse x = Due.house("byte a[" + size + "];int main(){byte b[" + size + "];}");
            Due.be("words of " + size, x.look(1, 0), (n + 3) / 4);
            Due.be("measure of " + size, x.look(4, 0), 4 + (n + 3) / 4);
        }
    }

    // "but all parts are looked at, wanted or not"

    private static void allPartsAreLookedAt() {
        for (String e : new String[] {"0&&%", "1||%", "1?1:%", "0?%:1", "0&&0&&%", "0&&(1||%)", "1?1:1?%:1", "1?1:0&&%"}) {
            Due.fault("const int c=" + e.replace("%", "@x") + ";" + MAIN, 4);
            Due.fault("int v;const int c=" + e.replace("%", "@v") + ";" + MAIN, 10);
            Due.fault("const int c=" + e.replace("%", "@get()") + ";" + MAIN, 10);
            Due.fault("const int k=1;const int c=" + e.replace("%", "@k(1)") + ";" + MAIN, 10);
            Due.fault("int v;int main(){int a[" + e.replace("%", "@v") + "];}", 10);
            Due.fine("const int k=1;const int c=" + e.replace("%", "k") + ";" + MAIN);
        }
    }

    // 5: "one that is told in this scope already (of FORMALs, too; outside of functions: the later one of any two)"

    private static void toldAlready() {
        String[] tolds = {"int %;", "int %=1;", "const int %=1;", "int %[1];", "byte %[1];", "int %[1]={1};", "int %(){}", "void %(){}"};
        for (String one : tolds) {
            for (String other : tolds) {
                Due.fault(one.replace("%", "x") + other.replace("%", "@x") + MAIN, 5);
                Due.fault(MAIN + one.replace("%", "x") + other.replace("%", "y") + other.replace("%", "@x"), 5);
                Due.fine(one.replace("%", "x") + other.replace("%", "y") + MAIN);
            }
            if (!one.contains("(")) {
                Due.fault(MAIN + one.replace("%", "@main"), 5);
                Due.fault(one.replace("%", "main") + "int @main(){}", 5);
            }
        }
        String[] formals = {"int %", "int %[]", "byte %[]"};
        String[] statements = {"int %;", "int %=1;", "int %[1];", "byte %[1];"};
        for (String one : formals) {
            for (String other : formals) {
                Due.fault("void f(" + one.replace("%", "x") + "," + other.replace("%", "@x") + "){}" + MAIN, 5);
                Due.fault("void f(" + one.replace("%", "x") + ",int y," + other.replace("%", "@x") + "){}" + MAIN, 5);
                Due.fine("void f(" + one.replace("%", "x") + "," + other.replace("%", "y") + "){}" + MAIN);
            }
            for (String other : statements) {
                Due.fault("void f(" + one.replace("%", "x") + "){" + other.replace("%", "@x") + "}" + MAIN, 5);
                Due.fine("void f(" + one.replace("%", "x") + "){{" + other.replace("%", "x") + "}}" + MAIN);
            }
        }
        for (String one : statements) {
            for (String other : statements) {
                Due.fault("int main(){" + one.replace("%", "x") + other.replace("%", "@x") + "}", 5);
                Due.fine("int main(){" + one.replace("%", "x") + "{" + other.replace("%", "x") + "}}");
            }
        }
        Due.fault("int x;int @x;int x;" + MAIN, 5);
    }

    // 6: "an array without [ where a value is wanted (for an int FORMAL, too), [ behind what is no array, a function
    // without ( , ( behind what is none; one of the signs with = , ++ or -- behind a const, or an array without ["

    private static void misused() {
        String head = "const int c=1;int i;int a[2];byte b[2];int f(){}void v(){}int one(int p){}";
        String[] values = {
            "put(%);", "halt(%);", "i=%;", "i+=%;", "a[%]=1;", "put(a[%]);", "if(%);", "while(%);", "do;while(%);", "for(;%;);", "return %;", "int x=%;", "for(int x=%;0;);",
            "one(%);", "put(one(%));", "put(-%);", "put(1+%);", "put(%+1);", "put((%));", "put(%?1:2);", "put(1?%:2);", "put(1?2:%);", "put(0&&%);", "put(%||1);"};
        for (String statement : values) {
            for (String e : new String[] {"@a", "@b", "@f", "@v", "@i[0]", "@c[0]", "@f[0]", "@v[0]", "@i()", "@c()", "@a()", "@b(1)"}) {
                Due.fault(head + "int main(){" + statement.replace("%", e) + "}", 6);
            }
            for (String e : new String[] {"i", "c", "a[0]", "b[1]", "f()", "one(1)"}) {
                Due.fine(head + "int main(){" + statement.replace("%", e) + "}");
            }
        }
        for (String sign : "= += -= *= /= %= &= |= ^= <<= >>= >>>=".split(" ")) {
            changed(head, sign + "1");
        }
        changed(head, "++");
        changed(head, "--");
        Due.fault("void f(int i,int a[]){@a=1;}" + MAIN, 6);
        Due.fault("void f(int i,int a[]){@i[0]=1;}" + MAIN, 6);
        Due.fault("void f(byte a[]){put(@a);}" + MAIN, 6);
        Due.fine("void f(int i,int a[],byte b[]){i=a[0]+b[i];a[i]=b[0];b[1]=i;}" + MAIN);
        for (String call : new String[] {"@i();", "@c();", "@a();", "@b(1);", "@i(1,2);"}) {
            Due.fault(head + "int main(){" + call + "}", 6);
        }
        Due.fine(head + "int main(){f();v();one(1);main();}");
    }

    private static void changed(String head, String change) {
        for (String place : new String[] {"@c", "@a", "@b", "@f", "@v", "@i[0]", "@c[0]", "@f[0]"}) {
            Due.fault(head + "int main(){" + place + change + ";}", 6);
            Due.fault(head + "int main(){for(" + place + change + ";0;);}", 6);
            Due.fault(head + "int main(){for(;0;" + place + change + ");}", 6);
        }
        for (String place : new String[] {"i", "a[0]", "b[1]"}) {
            Due.fine(head + "int main(){" + place + change + ";}");
        }
    }

    // 7: "a ) behind fewer E's than FORMALs, or the first token of an E that is one more"

    private static void fewerAndMore() {
        String[] lists = {"", "int a", "int a,int b", "int a,int b,int c", "int a,int b,int c,int d"};
        for (int formals = 0; formals <= 4; formals++) {
            for (int given = 0; given <= 6; given++) {
                StringBuilder call = new StringBuilder("f(");
                for (int n = 0; n < given; n++) {
                    call.append(n > 0 ? "," : "").append(n == formals ? "@" : "").append(n % 2 == 0 ? "-1" : "(2)");
                }
                call.append(given < formals ? "@)" : ")");
                for (String use : new String[] {"%;", "put(%);", "i=1+%;", "put(g(%));"}) {
                    String body = "int main(){" + use.replace("%", call) + "}";
                    String before = "int i;int g(int a){}int f(" + lists[formals] + "){}" + body;
                    String after = "int i;int g(int a){}" + body + "int f(" + lists[formals] + "){}";
                    if (given == formals) {
                        Due.fine(before);
                        Due.fine(after);
                    } else {
                        Due.fault(before, 7);
                        Due.fault(after, 7);
                    }
                }
            }
        }
        Due.fault("void f(int a[],int b){}int w[1];int main(){f(w@);}", 7);
        Due.fault("void f(int a[],byte b[]){}int w[1];int main(){f(w@);}", 7);
        Due.fault("void f(int a[]){}int w[1];int main(){f(w,@w);}", 7);
        Due.fault("void f(int a[]){}int main(){f(@);}", 7);
    }

    // 7: "where the FORMAL is an array the first token of an E that is not the NAME alone of an array of this KIND
    // (these ahead of 6 and 8 there, not of 4)"

    private static void arraysForFormals() {
        String head = "const int c=1;int i;int a[2];byte b[2];int f(){}void v(){}";
        String[] none = {"@i", "@c", "@f", "@v", "@1", "@f()", "@v()", "@get()", "@(a)", "@(b)", "@a[0]", "@b[0]", "@-a", "@!b", "@a+0", "@b|b", "@a?a:a", "@1?a:a", "@i[0]", "@a()"};
        for (String e : none) {
            Due.fault(head + "void ints(int p[]){}int main(){ints(" + e + ");}", 7);
            Due.fault(head + "void bytes(byte p[]){}int main(){bytes(" + e + ");}", 7);
            Due.fault(head + "void both(int p[],byte q[]){}int main(){both(" + e + ",b);}", 7);
            Due.fault(head + "void both(int p[],byte q[]){}int main(){both(a," + e + ");}", 7);
        }
        Due.fault(head + "void ints(int p[]){}int main(){ints(@b);}", 7);
        Due.fault(head + "void bytes(byte p[]){}int main(){bytes(@a);}", 7);
        Due.fine(head + "void ints(int p[]){ints(p);}void bytes(byte p[]){bytes(p);}int main(){ints(a);bytes(b);int x[1];byte y[1];ints(x);bytes(y);}");
        Due.fault(head + "void ints(int p[]){}void bytes(byte p[]){ints(@p);}" + MAIN, 7);
        Due.fault(head + "void ints(int p){}void bytes(byte p[]){ints(@p);}" + MAIN, 6);
        // Not ahead of 4.
        Due.fault(head + "void ints(int p[]){}int main(){ints(@x);}", 4);
        Due.fault(head + "void ints(int p[]){}int main(){ints(@x[0]);}", 4);
        Due.fault(head + "void ints(int p[]){}int main(){ints(@x());}", 4);
        Due.fault(head + "void ints(int p[]){}int main(){ints(@x+1);}", 4);
        Due.fault(head + "void ints(int p[]){}int main(){ints(@-x);}", 7);
        Due.fault(head + "void ints(int p[]){}int main(){ints(a,@x);}", 4);
        Due.fault(head + "void ints(int p[]){}int main(){ints(a,@(x));}", 7);
        // What is one more is 7 ahead of 6 and 8.
        for (String e : new String[] {"@a", "@v", "@v()", "@f", "@i[0]", "@i()"}) {
            Due.fault(head + "void none(){}int main(){none(" + e + ");}", 7);
            Due.fault(head + "void one(int p){}int main(){one(1," + e + ");}", 7);
        }
        Due.fault(head + "void one(int p){}int main(){one(@v());}", 8);
    }

    // 8: "the NAME of a void function where a value is wanted"

    private static void valuesOfVoid() {
        String head = "int i;int a[2];void v(){}void w(int p){}int one(int p){}";
        String[] values = {
            "put(%);", "halt(%);", "i=%;", "i+=%;", "a[%]=1;", "a[0]=%;", "put(a[%]);", "if(%);", "while(%);", "do;while(%);", "for(;%;);", "return %;", "int x=%;", "for(int x=%;0;);",
            "one(%);", "w(%);", "put(-%);", "put(1+%);", "put(%+1);", "put((%));", "put(%?1:2);", "put(1?%:2);", "put(0&&%);"};
        for (String statement : values) {
            Due.fault(head + "int main(){" + statement.replace("%", "@v()") + "}", 8);
            Due.fault(head + "int main(){" + statement.replace("%", "@w(1)") + "}", 8);
            Due.fine(head + "int main(){" + statement.replace("%", "one(1)") + "}");
        }
        Due.fine(head + "int main(){v();w(1);for(v();0;w(2));}");
        Due.fault("int main(){put(@later());}void later(){}", 8);
    }

    // 8: "in a void function the first token of the E behind return (ahead of 6 there); in another one the ; right behind return"

    private static void returns() {
        String head = "int a[2];int f(){}void v(){}int i;";
        for (String e : new String[] {"@1", "@i", "@-1", "@(1)", "@f()", "@get()", "@v()", "@a", "@f", "@i[0]", "@i()", "@a[5]", "@1+x"}) {
            Due.fault(head + "void g(){return " + e + ";}" + MAIN, 8);
            Due.fault(head + "void main(){if(1){return " + e + ";}}", 8);
        }
        Due.fault(head + "void g(){return @x;}" + MAIN, 4);
        Due.fault(head + "void g(){return @(x);}" + MAIN, 8);
        Due.fine(head + "void g(){return;}" + MAIN);
        Due.fault(head + "int g(){return@;}" + MAIN, 8);
        Due.fault(head + "int g(){return @;}" + MAIN, 8);
        Due.fault(head + "int main(){while(1){return  @;}}", 8);
        Due.fine(head + "int g(){return 1;}" + MAIN);
        Due.fine(head + "int g(){}" + MAIN);
    }

    // 9: "a break or continue in no while, do, for of its function"

    private static void breaksAndContinues() {
        for (String word : new String[] {"break;", "continue;"}) {
            for (String loop : new String[] {"while(1)%", "do %while(1);", "for(;;)%", "while(1){%}", "do{%}while(1);", "for(;;){%}", "while(1)if(1)%", "for(;;)if(1);else{{%}}", "while(1){while(1);%}"}) {
                Due.fine("int main(){" + loop.replace("%", word) + "}");
                Due.fault("int main(){" + loop.replace("%", word) + "@" + word + "}", 9);
                Due.fault("int f(){" + loop.replace("%", word) + "}int main(){@" + word + "}", 9);
                Due.fault("int main(){@" + word + loop.replace("%", word) + "}", 9);
            }
            for (String none : new String[] {"%", "{%}", "if(1)%", "if(1);else %"}) {
                Due.fault("int main(){" + none.replace("%", "@" + word) + "}", 9);
            }
        }
    }

    // 10: "in a CONSTANT a NAME that is known and no const, or has [ or ( behind, and get"

    private static void noConst() {
        String head = "const int c=1;int i;int a[2];byte b[2];int f(){}";
        for (String e : new String[] {"@i", "@a", "@b", "@f", "@f()", "@a[0]", "@b[0]", "@c[0]", "@c()", "@c(1)", "@i[0]", "@i()", "@get()", "@main", "@main()"}) {
            Due.fault(head + "const int x=" + e + ";" + MAIN, 10);
            Due.fault(head + "const int x=1+" + e + ";" + MAIN, 10);
            Due.fault(head + "int main(){int x[" + e + "];}", 10);
            // Ahead of what comes behind it.
            Due.fault(head + "int x=" + e + "+y;" + MAIN, 10);
        }
        Due.fault(head + "int x=@y;" + MAIN, 4);
        Due.fault(head + "int x=@y[0];" + MAIN, 4);
        Due.fault(head + "int x=@y();" + MAIN, 4);
        Due.fine(head + "int x=c;const int y=-c;int z[c]={c};int main(){byte z[c+c];}");
        Due.fault("void f(int p,int q[]){int x[@p];}" + MAIN, 10);
        Due.fault("void f(int p,int q[]){int x[@q];}" + MAIN, 10);
    }

    // 10: "the first token of an E in [ ] that is a number (without a 4 or 10 in it), but not 1 .. 500 (it makes no WORDS then)"

    private static void sizesOf1To500() {
        String[] wrong = {"0", "501", "-1", "1000", "2147483647", "2147483648", "4294967295", "1-1", "500+1", "(0)", "- -0", "!1", "~0", "0?5:0", "250*2+1", "1>>1", "65536*65536", "0x1f5", "0x0"};
        String[] right = {"1", "500", "2", "499", "1+0", "499+1", "(1)", "- -1", "!0", "~-2", "0?0:5", "0x1f4", "0x1", "501-1", "1000/2", "4294967295*-1"};
        for (String e : wrong) {
            for (String kind : new String[] {"int", "byte"}) {
                Due.fault(kind + " a[@" + e + "];" + MAIN, 10);
                Due.fault(kind + " a[@" + e + "]={1};" + MAIN, 10);
                Due.fault("int main(){" + kind + " a[@" + e + "];}", 10);
            }
        }
        for (String e : right) {
            Due.fine("int a[" + e + "];" + MAIN);
            Due.fine("byte a[" + e + "];" + MAIN);
            Due.fine("int main(){byte a[" + e + "];}");
        }
        for (int n : new int[] {-2, -1, 0, 1, 2, 3, 199, 200, 201, 498, 499, 500, 501, 502}) {
            boolean there = n >= 1 && n <= 500;
            Due.fault("int a[" + n + "];" + MAIN, there ? 0 : 10, there ? 0 : 6);
            Due.fault("byte a[" + n + "];" + MAIN, there ? 0 : 10, there ? 0 : 7);
            Due.fault("int main(){byte a[" + n + "];}", there ? 0 : 10, there ? 0 : 18);
        }
        // A 4 or 10 in it is told, not its value.
        Due.fault("int a[0*@x];" + MAIN, 4);
        Due.fault("int a[0*@get()];" + MAIN, 10);
        Due.fault("int i;int a[501+@i];" + MAIN, 10);
        // It makes no WORDS: the next ones have room.
        String full = "int p[500];int q[500];int r[500];int s[499];";
        Due.fault(full + "int a[@501];int b;" + MAIN, 10);
        Due.fault(full + "int t;int a[@0];int b;" + MAIN, 10);
        Due.fault(full + "int t;byte a[@501];" + MAIN, 10);
        Due.fault(full + "int t;int a[@x];" + MAIN, 4);
        Due.fault(full + "int t;int a[1+@get()];" + MAIN, 10);
        Due.fault("int main(){int a[200];int b[@501];}", 10);
        Due.fault("int main(){int a[200];byte b[@0];}", 10);
        Due.fault("int main(){int a[200];byte b[@x];}", 4);
    }

    // 10: "and of the first E in { } beyond this"

    private static void elementsBeyond() {
        for (int n : new int[] {1, 2, 3, 4, 5, 8, 9, 500}) {
            for (String kind : new String[] {"int", "byte"}) {
                for (int given = Math.max(1, n - 1); given <= n + 2; given++) {
                    StringBuilder text = new StringBuilder(kind + " a[" + n + "]={");
                    for (int k = 0; k < given; k++) {
                        text.append(k > 0 ? "," : "").append(k == n ? "@" : "").append(k % 3 == 0 ? "-1" : "(2)");
                    }
                    text.append("};").append(MAIN);
                    if (given <= n) {
                        Due.fine(text.toString());
                    } else {
                        Due.fault(text.toString(), 10);
                    }
                }
            }
        }
        Due.fault("int a[1]={1,@x};" + MAIN, 4);
        Due.fault("int a[1]={1,@-x};" + MAIN, 10);
        Due.fault("int a[1]={@x,2};" + MAIN, 4);
        Due.fault("int a[@0]={1};" + MAIN, 10);
    }

    // 11: "the NAME of a 41st function"

    private static void functionsUpTo40() {
        for (int n = 38; n <= 43; n++) {
            for (int at : new int[] {0, 20, n - 1}) {
                StringBuilder text = new StringBuilder();
                for (int k = 0; k < n; k++) {
                    text.append(k % 2 == 0 ? "int " : "void ").append(k == 40 ? "@" : "").append(k == at ? "main" : "f" + k).append("(){}int g").append(k).append(";");
                }
                if (n <= 40) {
                    CompiledHouse x = Due.house(text.toString());
                    Due.be("functions", x.look(0, 0), n);
                    Due.be("the last one's place", x.look(2, n - 1), text.lastIndexOf("(") - (at == n - 1 ? 4 : 3));
                    Due.be("none such", x.look(2, n), -1);
                    Due.be("main is the one", x.begin(4) && x.run(0) == 3, true);
                } else {
                    Due.fault(text.toString(), 11);
                }
            }
        }
    }

    // 11: "of a fifth FORMAL"

    private static void formalsUpTo4() {
        String[] kinds = {"int %", "int %[]", "byte %[]"};
        for (int n = 0; n <= 7; n++) {
            for (int k = 0; k < 3; k++) {
                StringBuilder text = new StringBuilder("int f(");
                int measure = 4;
                for (int i = 0; i < n; i++) {
                    int kind = (i + k) % 3;
                    measure += kind == 0 ? 1 : 2;
                    text.append(i > 0 ? "," : "").append(kinds[kind].replace("%", (i == 4 ? "@p" : "p") + i));
                }
                text.append("){}").append(MAIN);
                if (n <= 4) {
                    CompiledHouse x = Due.house(text.toString());
                    Due.be("formals", x.look(3, 0), n);
                    Due.be("measure", x.look(4, 0), measure);
                } else {
                    Due.fault(text.toString(), 11);
                }
            }
        }
    }

    // 11: "of what makes more than 2,000 WORDS of all arrays and ints told outside of functions"

    private static void wordsUpTo2000() {
        String most = "int a[500];int b[500];int c[500];";
        for (int rest = 490; rest <= 500; rest++) {
            String head = most + "int d[" + rest + "];";
            int left = 500 - rest;
            for (int n = 1; n <= 12; n++) {
                words(head, "int %[" + n + "];", n <= left);
                words(head, "int %[" + n + "]={1};", n <= left);
                words(head, "byte %[" + n + "];", (n + 3) / 4 <= left);
                words(head, "byte %[" + n * 4 + "];", n <= left);
                words(head, "byte %[" + (n * 4 + 1) + "]={1};", n + 1 <= left);
            }
            words(head, "int %;", left >= 1);
            words(head, "int %=1;", left >= 1);
            words(head, "const int %=1;", true);
            words(head, "int %(){int z[200];}", true);
        }
        StringBuilder ints = new StringBuilder(most + "int d[496];int e;int f;int g;int h;");
        CompiledHouse x = Due.house(ints + MAIN);
        Due.be("words", x.look(1, 0), 2000);
        Due.fault(ints + "int @i;" + MAIN, 11);
        Due.fault(ints + "const int k=1;int @i;int j;" + MAIN, 11);
        Due.fault(ints + MAIN + "int @i;", 11);
    }

    private static void words(String head, String told, boolean fits) {
        for (String behind : new String[] {"", "const int k=2;"}) {
            if (fits) {
                Due.fine(head + told.replace("%", "x") + behind + MAIN);
            } else {
                Due.fault(head + told.replace("%", "@x") + behind + MAIN, 11);
            }
        }
    }

    // 11: "or more than 200 of those told by one function's STATEMENTS, all of them"

    private static void wordsUpTo200() {
        for (int rest = 190; rest <= 201; rest++) {
            int left = 200 - rest;
            if (left < 0) {
                Due.fault("int main(){int @d[" + rest + "];}", 11);
                continue;
            }
            for (String form : new String[] {"int d[%];", "{int d[%];}", "while(0)int d[%];", "int d[1];int e[%-1];"}) {
                String head = form.replace("%", "" + rest);
                for (int n = 1; n <= 12; n++) {
                    local(head, "int %[" + n + "];", n <= left);
                    local(head, "byte %[" + n + "];", (n + 3) / 4 <= left);
                    local(head, "{byte %[" + (n * 4 + 1) + "];}", n + 1 <= left);
                }
                local(head, "int %;", left >= 1);
                local(head, "{int %=1;}", left >= 1);
                local(head, "for(int %=0;0;);", left >= 1);
                local(head, "if(1);else int %;", left >= 1);
            }
        }
        Due.fine("void f(){int a[200];}void g(){int a[200];}int main(){int a[200];}");
        Due.fault("void f(){int a[200];}void g(){int a[200];int @b;}int main(){int a[200];int b;}", 11);
        // The same room for two that are never there at once is counted twice.
        Due.fault("int main(){{int a[100];}{int b[100];}{int @c;}}", 11);
        Due.fault("int main(){if(1)int a[101];else int @b[100];}", 11);
        Due.fine("int main(){if(1)int a[100];else int b[100];}");
        // FORMALs are none of them.
        Due.fine("void f(int p,int q[],byte r[],int s){int a[200];}" + MAIN);
        Due.fault("void f(int p,int q[],byte r[],int s){int a[200];int @b;}" + MAIN, 11);
        CompiledHouse x = Due.house("void f(int p[],int q[],byte r[],byte s[]){int a[199];for(int i=0;0;);}" + MAIN);
        Due.be("measure", x.look(4, 0), 212);
    }

    private static void local(String head, String told, boolean fits) {
        if (fits) {
            Due.fine("int main(){" + head + told.replace("%", "x") + "}");
            Due.fine("void f(int p){" + head + told.replace("%", "x") + "}" + MAIN);
        } else {
            Due.fault("int main(){" + head + told.replace("%", "@x") + "int y;}", 11);
        }
    }

    // 11: "(an int is 1, an int array of n n, a byte array (n + 3) / 4; const none)"

    private static void wordsOfByteArrays() {
        for (int n = 1; n <= 500; n++) {
            CompiledHouse x = Due.house("byte a[" + n + "];int main(){byte b[" + n + "];}");
            Due.be("words of " + n, x.look(1, 0), (n + 3) / 4);
            Due.be("measure of " + n, x.look(4, 0), 4 + (n + 3) / 4);
            x = Due.house("int a[" + n + "];int main(){int b[" + Math.min(n, 200) + "];}");
            Due.be("words of " + n, x.look(1, 0), n);
            Due.be("measure of " + n, x.look(4, 0), 4 + Math.min(n, 200));
        }
        CompiledHouse x = Due.house("const int c=3;int i;int main(){int i;int j=1;for(int k=0;0;);}");
        Due.be("words", x.look(1, 0), 1);
        Due.be("measure", x.look(4, 0), 7);
    }

    // 12: "the first token of a FORMAL of a function main; the text's length, if there is no function main"

    private static void main() {
        Due.fine("int main(){}");
        Due.fine("void main(){}");
        Due.fault("int main(@int a){}", 12);
        Due.fault("void main( @byte a[]){}", 12);
        Due.fault("int main(@int a[],int b){}", 12);
        Due.fault("int f(int a){}int main(@int a){}", 12);
        Due.fault("@", 12);
        Due.fault(" @", 12);
        Due.fault("int a;@", 12);
        Due.fault("int f(){}@", 12);
        Due.fault("int main;@", 12);
        Due.fault("int main[3];@", 12);
        Due.fault("const int main=1; \n@", 12);
        Due.fault("int Main(){}int mai(){}int main_(){}@", 12);
        Due.fault("int f(int main){int x;}@", 12);
        Due.fault("int f(){int main;}@", 12);
        Due.fault("int f(){@main();}", 4);
        // All else in the text is ahead of its length.
        Due.fault("int f(){@break;}", 9);
    }

    // "The first one in the text of these"

    private static void theFirstInTheText() {
        String[] faults = {"@x=1;", "int a;int @a;", "@w=1;", "one(@);", "put(@v());", "@break;", "int b[@i];", "int c[@501];", "int @d[201];"};
        int[] kinds = {4, 5, 6, 7, 8, 9, 10, 10, 11};
        String head = "int i;int w[1];void v(){}int one(int p){}";
        for (int first = 0; first < faults.length; first++) {
            for (int second = 0; second < faults.length; second++) {
                Due.fault(head + "int main(){{" + faults[first] + "}{" + faults[second].replace("@", "") + "}}", kinds[first]);
            }
            Due.fault(head + "int main(){" + faults[first] + "}int f(){break;}", kinds[first]);
            Due.fault(head + "void main(@int p){" + faults[first].replace("@", "") + "}", 12);
            Due.fault(head + "int f(){" + faults[first] + "}", kinds[first]);
            Due.fault(head + "int f(){" + faults[first] + "}int main(int p){}", kinds[first]);
        }
        // A NAME that tells too much is ahead of what is in its [ ] and { }.
        String full = "int p[500];int q[500];int r[500];int s[500];";
        Due.fault(full + "int @a[1]={x};" + MAIN, 11);
        Due.fault(full + "int @a=x;" + MAIN, 11);
        Due.fault("int main(){int a[200];int @b=x;}", 11);
        Due.fault("int main(){int a;int @a=x;}", 5);
        Due.fault("int a;int @a[0];" + MAIN, 5);
    }

    // "of one place the least"

    private static void ofOnePlaceTheLeast() {
        String full = "int p[500];int q[500];int r[500];int s[500];";
        Due.fault(full + "int @p;" + MAIN, 5);
        Due.fault(full + "byte @s[4];" + MAIN, 5);
        Due.fault("int main(){int a[200];int @a;}", 5);
        Due.fault("int f(int a,int b,int c,int d,int @d){}" + MAIN, 5);
        Due.fault("int f(int a,int b,int c,int d,int @e,int e){}" + MAIN, 11);
        StringBuilder forty = new StringBuilder(MAIN);
        for (int k = 1; k < 40; k++) {
            forty.append("int f").append(k).append("(){}");
        }
        Due.fault(forty + "int @f7(){}", 5);
        Due.fault(forty + "int @g(){}int f7(){}", 11);
        Due.fault("void v(){}int main(){put(@v);}", 6);
        Due.fault("void v(){}int main(){put(@v[0]);}", 6);
        Due.fault("void v(){}void main(){return @v;}", 8);
        Due.fault("void f(){}int main(){f(@x);}", 4);
        Due.fault("int a[1]={1,@x};" + MAIN, 4);
        Due.fault("void v(){}const int c=@v();" + MAIN, 8);
    }
}
