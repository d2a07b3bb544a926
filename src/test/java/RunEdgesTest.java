import java.lang.reflect.Field;
import java.util.function.Supplier;

/** The edges of promises 4 to 11 and of what Terms 2 says of INPUT, TURNS and THE STACK; each sentence on its own. */
public final class RunEdgesTest {
    private static final int LEAST = Integer.MIN_VALUE;
    private static final int MOST = Integer.MAX_VALUE;

    public static void main(String[] args) throws ReflectiveOperationException {
        readLeavesNothingOfARun();
        readEmptiesTheTape();
        eachReadIsAsTheFirst();
        twoFullTapes();
        nothingIsLeftOfATextWithAFault();
        roomIsUsedAgain();
        lookOfFunctions();
        lookOfWords();
        giveUpTo500();
        numbersOfTheInputComeInOrder();
        beginWithALimitOf4To2000();
        beginInPlaceOfAnother();
        runWithTurnsOf0To1000();
        whatIsOverStays();
        aTurnAheadOfEachTimeOfALoop();
        aTurnAheadOfEachCall();
        pausedWhereNoneIsLeft();
        waitsWithoutANumber();
        doesItAgainWhenItGoesOn();
        halts();
        depthAtTheLimit();
        measures();
        noRoomForMain();
        stackBehindTheTurn();
        depthIsOfWhatIsOpen();
        outputKeeps2000();
        outputCountStaysAtTheGreatest();
        worldOfEachKind();
        placesUpTo3999();
        globalsAsAtFirstAndByNow();
        globalOfNoWord();
        theTapeIsNotTheProgram();
        Due.done();
    }

    private static CompiledHouse begun(String text, int limit) {
        CompiledHouse x = Due.house(text);
        Due.be("begin", x.begin(limit), true);
        return x;
    }

    private static void world(String what, CompiledHouse x, int... due) {
        for (int k = 0; k < due.length; k++) {
            Due.be(what + ": world " + k, x.world(k), due[k]);
        }
    }

    // Promise 4: "No run is there, no INPUT, no OUTPUT", and without a FAULT or with one

    private static void readLeavesNothingOfARun() {
        String text = "int g=3;int f(int n){put(n);return n;}int main(){put(5);g=f(get());while(g)g--;%}";
        String[] ends = {"", "halt(7);", "int a[1];a[1]=0;", "main();", "while(1);"};
        for (String end : ends) {
            for (int turns : new int[] {-1, 0, 1, 2, 3, 20}) {
                for (String next : new String[] {"int main(){put(g(2));}int g(int p){return p;}", "int main(){", "x", ""}) {
                    CompiledHouse x = Due.house(text.replace("%", end));
                    x.give(3);
                    x.give(4);
                    if (turns >= 0) {
                        x.begin(40);
                        x.run(turns);
                    }
                    CompiledHouse twin = new CompiledHouse();
                    Due.be("read", Due.read(x, next), Due.read(twin, next));
                    world("behind a read", x, 0, 0, 0, 0, 0, -1, 0, 0);
                    Due.be("run", x.run(5), -1);
                    Seen.same("behind a read of " + next, x, twin);
                    Due.be("begin", x.begin(20), twin.begin(20));
                    x.run(9);
                    twin.run(9);
                    Seen.same("a run behind a read of " + next, x, twin);
                }
            }
        }
    }

    // Promise 4: "The tape (empty then)"

    private static void readEmptiesTheTape() {
        for (String text : new String[] {"int main(){}", "int main(){", "$", ""}) {
            CompiledHouse x = new CompiledHouse();
            Due.read(x, text);
            Due.be("the tape is empty", x.end(1), -1);
            Due.be("the tape is empty", x.end(0), 0);
            Due.be("read again", x.read(), 12);
            Due.be("there is no program", x.look(0, 0), -1);
            Due.be("read", Due.read(x, "void main(){}"), 0);
            Due.be("there is one", x.look(0, 0), 1);
        }
    }

    // Promise 4: what has been read ahead of it does not count.

    private static void eachReadIsAsTheFirst() {
        String[] texts = {
            "", "$", "int main(){}", "int a=5;int b[3]={1,2,3};byte c[6]={9,8,7,6,5,4};int main(){put(a+b[1]+c[5]);while(a)a--;}",
            "int b;int c;int a;int main(){put(a|b|c);int d[3];put(d[0]|d[1]|d[2]);}", "byte b[9];int main(){put(b[0]);b[8]=get();put(b[8]);}",
            "const int a=3;void f(int x,byte y[],int z[],int w){int q[a];}int main(){put(a);f(1,b(),c(),2);}", "void f(int a,int b){put(a-b);}void g(){f(7,2);}int main(){g();}",
            "int main(){f();}void f(){halt(3);}", "int main(){return g(1);}int g(int f){return f+1;}", "int main()" + "{".repeat(40) + "}".repeat(40), "int main()" + "{".repeat(41),
            "int main(){" + "if(1)".repeat(30), "int main(){put(" + "(".repeat(30), "int a[" + "1?".repeat(20), "int main(){int a;a=1;while(a){while(a){break", "int main(){while(1){while(1){x=1;}}}", "int main(){break;}",
            "int main(){int a[1];a[1]=1;}", "int main(){main();}", "int x=y;", "int x[0];int main(){}", "int main(int a){}", "int f(int a,int a){}int main(){}", "void v(){}int main(){return v();}", "int main(){int a[201];}",
            "int a[500];int b[500];int c[500];int d[500];int e;int main(){}", "int a[500];int b[500];int c[500];int d[500];int main(){a[0]=1;put(d[499]);}", "int g(){return 4;}void main(){put(g());}", "int a=1;int a=2;int main(){}"};
        for (String first : texts) {
            for (String second : texts) {
                CompiledHouse x = new CompiledHouse();
                CompiledHouse twin = new CompiledHouse();
                Due.read(x, first);
                x.give(1);
                x.begin(300);
                x.run(3);
                Due.be("read of " + second + " behind " + first, Due.read(x, second), Due.read(twin, second));
                Seen.same(second + " behind " + first, x, twin);
                for (CompiledHouse house : new CompiledHouse[] {x, twin}) {
                    house.give(6);
                    house.begin(300);
                    house.run(20);
                }
                Seen.same("a run of " + second + " behind " + first, x, twin);
            }
        }
    }

    /** Two texts as full as can be in the 512 calls of one object. */
    private static void twoFullTapes() {
        String[] words = {"a++;", "a=a+1;", "b[1]++;", "f();", "if(a)a++;else a=1;", "a=a?a+1:1;"};
        for (String one : words) {
            for (String other : words) {
                CompiledHouse x = new CompiledHouse();
                for (String statement : new String[] {one, other}) {
                    String head = "int a;int b[2];void f(){a++;}int main(){";
                    int times = (3999 - head.length()) / statement.length();
                    String text = head + statement.repeat(times) + "}";
                    text += " ".repeat(4000 - text.length());
                    Due.be("read of " + statement, Due.read(x, text), 0);
                    x.begin(8);
                    Due.be("run of " + statement, x.run(1000), 3);
                    Due.be("times of " + statement, x.global(0) + x.global(2), times);
                }
            }
        }
    }

    // Promise 4: "with a FAULT .. there is no program"

    private static void nothingIsLeftOfATextWithAFault() {
        String told = "int a=5;byte b[4]={1,2,3,4};int c[3]={7,8,9};int f(int p){return p;}int main(){put(a);}";
        for (String fault : new String[] {"$", "x", "{", "int a;", "int y=x;", "int z[0];", "void g(){break;}", "int h(){return;}", "int h(){f();}"}) {
            CompiledHouse x = new CompiledHouse();
            Due.be("read of " + fault, Due.read(x, told + fault) == 0, false);
            for (int i = 0; i < 9; i++) {
                Due.be("word " + i, x.global(i), 0);
                for (int what = 0; what < 6; what++) {
                    Due.be("look " + what, x.look(what, i), -1);
                }
            }
            Due.be("give", x.give(1), -1);
            Due.be("begin", x.begin(100), false);
            Due.be("run", x.run(1), -1);
            world("behind a fault", x, 0, 0, 0, 0, 0, -1, 0, 0);
        }
    }

    /** What a full tape tells does not take room from the next one, nor do many values that an end leaves. */
    private static void roomIsUsedAgain() {
        StringBuilder ints = new StringBuilder();
        StringBuilder formals = new StringBuilder("int f(int aa");
        for (int k = 0; ints.length() < 3900; k++) {
            String name = "" + (char) ('a' + k / 26) + (char) ('A' + k % 26);
            ints.append("int ").append(name).append(";");
            formals.append(formals.length() < 3950 ? ",int " + name : "");
        }
        String[] texts = {ints + "int zz;int main(){zz=1;put(zz);}", formals + "){}int main(){}", "void f(int a){put(a);}void g(byte b[],int c){put(b[c]);}byte z[2]={3,4};int main(){f(1);g(z,1);}"};
        int[] due = {0, 0, 0};
        for (int k = 0; k < 3; k++) {
            due[k] = Due.read(new CompiledHouse(), texts[k]);
        }
        Due.be("a fifth FORMAL", due[1] % 16, 11);
        Due.be("no fault", due[0] | due[2], 0);
        for (int first = 0; first < 3; first++) {
            for (int second = 0; second < 3; second++) {
                CompiledHouse x = new CompiledHouse();
                Due.be("read", Due.read(x, texts[first]), due[first]);
                Due.be("read", Due.read(x, texts[second]), due[second]);
                if (due[second] == 0) {
                    x.begin(50);
                    Due.be("run", x.run(9), 3);
                    Due.be("output", x.output(0), 1);
                }
            }
        }
        StringBuilder four = new StringBuilder();
        for (int k = 0; k < 39; k++) {
            four.append("void f").append(k).append("(int a,int b,int c,int d){}");
        }
        CompiledHouse x = new CompiledHouse();
        Due.be("read", Due.read(x, texts[1]), due[1]);
        Due.be("read", Due.read(x, four + "int main(){f38(1,2,3,4);f0(1,2,3,4);f20(1,2,3,4);}"), 0);
        String open = "1|1^1&1==1<1<<1+1*(".repeat(36);
        x = Due.house("int n;int f(){n++;if(n>450)halt(n);return " + open + "f()" + ")".repeat(36) + ";}int main(){put(8-f());}");
        for (int k = 0; k < 8; k++) {
            x.begin(2000);
            Due.be("run", x.run(1000), 4);
            Due.be("value", x.world(4), 451);
            Due.be("depth", x.world(6), 4 + 451 * 4);
        }
        x = Due.house("int n;int f(){n++;if(n>450)return n;return " + open + "f()" + ")".repeat(36) + ";}int main(){put(5+(f()!=0));}");
        for (int k = 0; k < 8; k++) {
            x.begin(2000);
            Due.be("a run that stops on its way", x.run(400), 1);
            x.begin(2000);
            Due.be("run", x.run(1000), 3);
            Due.be("output", x.output(0), 6);
        }
    }

    // Promise 5

    private static void lookOfFunctions() {
        String text = "int a;void f(){}\nint g(int p,byte q[]){int z;}  void  h(int r[]){byte y[9];}int main(){}";
        int[][] due = {{text.indexOf("f("), 0, 4, 0}, {text.indexOf("g("), 2, 8, 1}, {text.indexOf("h("), 1, 9, 0}, {text.indexOf("main"), 0, 4, 1}};
        CompiledHouse x = Due.house(text);
        for (int i : new int[] {LEAST, -1, 0, 1, 2, 3, 4, 5, 40, MOST}) {
            Due.be("functions", x.look(0, i), 4);
            Due.be("words", x.look(1, i), 1);
            for (int what = 2; what <= 5; what++) {
                Due.be("look " + what + " of " + i, x.look(what, i), i >= 0 && i < 4 ? due[i][what - 2] : -1);
            }
            for (int what : new int[] {LEAST, -2, -1, 6, 7, 16, MOST}) {
                Due.be("look " + what + " of " + i, x.look(what, i), -1);
            }
        }
        // A run changes none of it.
        x.begin(50);
        x.run(5);
        for (int i = 0; i < 4; i++) {
            for (int what = 2; what <= 5; what++) {
                Due.be("look " + what + " of " + i, x.look(what, i), due[i][what - 2]);
            }
        }
        CompiledHouse one = Due.house("void main(){}");
        Due.be("functions", one.look(0, 7), 1);
        Due.be("place", one.look(2, 0), 5);
        Due.be("none such", one.look(2, 1), -1);
    }

    private static void lookOfWords() {
        String[] tolds = {"", "int a;", "const int a=9;", "int a[7];", "byte a[1];", "byte a[4];", "byte a[5];", "byte a[500];", "int a;byte b[3];int c[2];const int d=1;byte e[9];", "int a[500];int b[500];int c[500];int d[500];"};
        int[] words = {0, 1, 0, 7, 1, 1, 2, 125, 7, 2000};
        for (int k = 0; k < tolds.length; k++) {
            CompiledHouse x = Due.house(tolds[k] + "int main(){int z[100];}");
            Due.be("words of " + tolds[k], x.look(1, 0), words[k]);
        }
    }

    // Promise 6

    private static void giveUpTo500() {
        CompiledHouse x = Due.house("int main(){int n;while(1){n=get();put(n);}}");
        for (int n = 1; n <= 499; n++) {
            x.give(n);
        }
        Due.be("waiting", x.world(3), 499);
        Due.be("the 500th", x.give(LEAST), 500);
        Due.be("the 501st", x.give(7), -1);
        Due.be("the 501st", x.give(7), -1);
        Due.be("waiting", x.world(3), 500);
        CompiledHouse y = Due.house("int main(){int n;for(int i=0;i<3;i++){put(get());}while(1){n=get();put(n);}}");
        for (int n = 1; n <= 400; n++) {
            y.give(n);
        }
        y.begin(10);
        y.run(1);
        Due.be("one has been taken", y.world(3), 399);
        for (int n = 401; n < 501; n++) {
            y.give(n);
        }
        Due.be("waiting", y.world(3), 499);
        Due.be("one more", y.give(501), 500);
        Due.be("and none more", y.give(502), -1);
        // An end of the run leaves what waits.
        CompiledHouse z = Due.house("int main(){put(get());}");
        Due.be("give", z.give(1), 1);
        Due.be("give", z.give(2), 2);
        z.begin(4);
        z.run(0);
        Due.be("waiting", z.world(3), 1);
        Due.be("give to what is over", z.give(3), 2);
        z.begin(4);
        Due.be("the INPUT stays", z.world(3), 2);
        z.run(0);
        Due.be("the next one", z.output(0), 2);
    }

    private static void numbersOfTheInputComeInOrder() {
        for (int n : new int[] {0, 1, -1, LEAST, MOST}) {
            Due.output("int main(){put(get());}", new int[] {n}, n);
        }
        // More than 500 in all, in the 512 calls that an object has.
        CompiledHouse x = begun("int s;int main(){while(1){s=s*31+get();}}", 4);
        int given = 0;
        int sum = 0;
        for (int most : new int[] {100, 502}) {
            while (given < most) {
                given++;
                sum = sum * 31 + given * 1000003;
                Due.be("give", x.give(given * 1000003), given <= 100 ? given : given - 100);
            }
            Due.be("run", x.run(1000), 2);
            Due.be("all of them, in their order", x.global(0), sum);
        }
    }

    // Promise 7

    private static void beginWithALimitOf4To2000() {
        for (int limit : new int[] {LEAST, -4, -1, 0, 1, 2, 3, 4, 5, 1999, 2000, 2001, 2002, MOST}) {
            CompiledHouse x = Due.house("int g=1;int main(){put(g);}");
            boolean there = limit >= 4 && limit <= 2000;
            Due.be("begin " + limit, x.begin(limit), there);
            world("limit " + limit, x, there ? 1 : 0, 0, 0, 0, 0, -1, 0, there ? limit : 0);
            Due.be("run", x.run(0), there ? 3 : -1);
            Due.be("limit", x.world(7), there ? limit : 0);
            Due.be("without a program", new CompiledHouse().begin(limit), false);
        }
    }

    private static void beginInPlaceOfAnother() {
        String text = "int g=3;byte b[2]={1};int f(int n){put(n);return n;}int main(){put(5);b[1]++;g=f(get());while(g)g--;%}";
        for (String end : new String[] {"", "halt(7);", "int a[1];a[1]=0;", "main();", "while(1);"}) {
            for (int turns = 0; turns < 12; turns++) {
                CompiledHouse x = begun(text.replace("%", end), 12);
                x.run(turns);
                x.give(3);
                x.run(turns);
                x.give(4);
                int waiting = x.world(3);
                Due.be("begin", x.begin(30), true);
                world("begun anew", x, 1, 0, 0, waiting, 0, -1, 0, 30);
                Due.be("global", x.global(0), 3);
                Due.be("global", x.global(1), 1);
                Due.be("no output", x.output(0), 0);
                Due.be("run", x.run(0), waiting > 0 ? 1 : 2);
                Due.be("output", x.output(0), 5);
                Due.be("outputs", x.world(2), 1);
                Due.be("global", x.global(1), 0x101);
            }
        }
    }

    // Promise 8

    private static void runWithTurnsOf0To1000() {
        for (int turns : new int[] {LEAST, -1000, -1, 0, 1, 2, 999, 1000, 1001, 1002, MOST}) {
            CompiledHouse x = begun("int main(){put(1);while(1)put(2);}", 4);
            boolean there = turns >= 0 && turns <= 1000;
            Due.be("run " + turns, x.run(turns), there ? 1 : -1);
            Due.be("turns", x.world(1), there ? turns : 0);
            Due.be("outputs", x.world(2), there ? turns + 1 : 0);
            Due.be("depth", x.world(6), there ? 4 : 0);
            Due.be("without a run", Due.house("int main(){}").run(turns), -1);
        }
    }

    private static void whatIsOverStays() {
        String[] texts = {"int g;int main(){g=1;put(4);return 6;}", "int g;int main(){g=1;put(4);halt(6);}", "int g;int main(){g=1;put(4);int a[1];a[g]=2;}", "int g;int f(){int a[50];}int main(){g=1;put(4);f();}"};
        for (int k = 0; k < 4; k++) {
            int how = 3 + k;
            CompiledHouse x = begun(texts[k], 20);
            Due.be("run", x.run(5), how);
            CompiledHouse twin = begun(texts[k], 20);
            twin.run(5);
            for (int turns : new int[] {0, 1, 1000}) {
                Due.be("it stays", x.run(turns), how);
            }
            Due.be("a wrong number", x.run(-1), -1);
            Due.be("a wrong number", x.run(1001), -1);
            Seen.same("what is over", x, twin);
            Due.be("how", x.world(0), how);
        }
    }

    // "TURNS. One is taken ahead of each time that the STATEMENT of a while, do, for begins"

    private static void aTurnAheadOfEachTimeOfALoop() {
        for (int n = 0; n <= 5; n++) {
            String times = "int n=" + n + ";int i;";
            turns(times + "int main(){while(i<n)i++;}", n);
            turns(times + "int main(){for(;i<n;i++);}", n);
            turns(times + "int main(){for(int k=0;k<n;k++){}}", n);
            turns(times + "int main(){do i++;while(i<n);}", Math.max(1, n));
            turns(times + "int main(){while(i<n){i++;continue;}}", n);
            turns(times + "int main(){for(;i<n;i++){continue;}}", n);
            turns(times + "int main(){do{i++;continue;}while(i<n);}", Math.max(1, n));
            turns(times + "int main(){while(1){if(i==n)break;i++;}}", n + 1);
            turns(times + "int main(){for(;;i++)if(i==n)break;}", n + 1);
            turns(times + "int main(){do if(i==n)return 1;else i++;while(1);}", n + 1);
            turns(times + "int main(){while(i<n){i++;for(int k=0;k<2;k++);do;while(0);}}", n * 4);
        }
        turns("int main(){if(1);{}if(0);else{}put(1?2:3);int a[2];a[0]=1;}", 0);
    }

    // "and ahead of each CALL, when its E's are there"

    private static void aTurnAheadOfEachCall() {
        String f = "int f(){return 1;}int g(int p){return p;}void v(int a,int b){}";
        turns(f + "int main(){f();}", 1);
        turns(f + "int main(){f();f();}", 2);
        turns(f + "int main(){put(f()+f()*f());}", 3);
        turns(f + "int main(){put(g(g(g(1))));}", 3);
        turns(f + "int main(){v(f(),g(2));}", 3);
        turns(f + "int main(){put(f()&&g(0)&&f());}", 2);
        turns(f + "int main(){for(f();g(0);f());}", 2);
        turns(f + "int main(){int i;while(g(i<2))i+=f();}", 3 + 2 + 2);
        turns(f + "int n;int main(){n++;if(n<4)main();}", 3);
        turns("int main(){}", 0);
    }

    /** A run to its end takes so many TURNS: with these it ends, with one less it is PAUSED, and one by one as well. */
    private static void turns(String text, int due) {
        CompiledHouse x = begun(text, 100);
        Due.be("run of " + text, x.run(1000), 3);
        Due.be("turns of " + text, x.world(1), due);
        x.begin(100);
        Due.be("run with just so many of " + text, x.run(due), 3);
        if (due == 0) {
            return;
        }
        x.begin(100);
        Due.be("run with one less of " + text, x.run(due - 1), 1);
        Due.be("turns of " + text, x.world(1), due - 1);
        Due.be("run with none of " + text, x.run(0), 1);
        Due.be("turns of " + text, x.world(1), due - 1);
        Due.be("run with one of " + text, x.run(1), 3);
        Due.be("turns of " + text, x.world(1), due);
        x.begin(100);
        for (int n = 0; n <= due; n++) {
            Due.be("step " + n + " of " + text, x.run(n == 0 ? 0 : 1), n == due ? 3 : 1);
            Due.be("turns of " + text, x.world(1), n);
        }
    }

    // "if none is left then, the run is PAUSED there (it is taken when it goes on)"

    private static void pausedWhereNoneIsLeft() {
        // What has been put by then, with 0, 1, 2 .. TURNS.
        paused("int main(){put(1);while(2>i){put(3);i++;}put(4);}", "1", "13", "1334");
        paused("int main(){put(1);do{put(3);i++;}while(i<2);put(4);}", "1", "13", "1334");
        paused("int main(){put(1);for(i=0;i<2;i++)put(i);put(4);}", "1", "10", "1014");
        // The E of a while is worked out ahead of the TURN, and not again behind it.
        paused("int main(){while(t(i<2))i++;}", "", "1", "1", "11", "11", "110");
        paused("int main(){for(t(5);t(i<1);i=t(6))put(7);}", "", "5", "51", "517", "5176", "51760");
        paused("int main(){do{put(2);i++;}while(t(i<2));}", "", "2", "21", "212", "2120");
        // The E's of a CALL are there ahead of its TURN.
        paused("int main(){put(t(t(3)+t(4))+1);}", "", "3", "34", "3478");
        paused("int main(){put(1);t(2);put(3);}", "1", "123");
        // Depth and all else is as it was ahead of the CALL.
        CompiledHouse x = begun("int i;int t(int n){put(n);return n;}int main(){i=8;t(get());i=9;}", 20);
        x.give(5);
        Due.be("run", x.run(0), 1);
        world("PAUSED", x, 1, 0, 0, 0, 0, -1, 4, 20);
        Due.be("global", x.global(0), 8);
        Due.be("run", x.run(0), 1);
        Due.be("run", x.run(1), 3);
        world("ENDED", x, 3, 1, 1, 0, 0, -1, 0, 20);
        Due.be("global", x.global(0), 9);
    }

    private static void paused(String text, String... digits) {
        CompiledHouse x = begun("int i;int t(int n){put(n);return n;}" + text, 100);
        for (int n = 0; n < digits.length; n++) {
            Due.be("step " + n + " of " + text, x.run(n == 0 ? 0 : 1), n == digits.length - 1 ? 3 : 1);
            StringBuilder got = new StringBuilder();
            for (int i = 0; i < x.world(2); i++) {
                got.append(x.output(i));
            }
            Due.be("step " + n + " of " + text + " has put " + got, got.toString().equals(digits[n]), true);
        }
    }

    // "get ( ): the next one of the INPUT; without one the run WAITS"

    private static void waitsWithoutANumber() {
        CompiledHouse x = begun("int g;int main(){g=1;put(get());g=2;put(get());g=3;}", 9);
        Due.be("run", x.run(0), 2);
        world("WAITS", x, 2, 0, 0, 0, 0, -1, 4, 9);
        Due.be("global", x.global(0), 1);
        Due.be("run", x.run(1000), 2);
        world("WAITS", x, 2, 0, 0, 0, 0, -1, 4, 9);
        Due.be("give", x.give(8), 1);
        world("it waits until it goes on", x, 2, 0, 0, 1, 0, -1, 4, 9);
        Due.be("run", x.run(0), 2);
        world("WAITS", x, 2, 0, 1, 0, 0, -1, 4, 9);
        Due.be("global", x.global(0), 2);
        x.give(9);
        Due.be("run", x.run(0), 3);
        world("ENDED", x, 3, 0, 2, 0, 0, -1, 0, 9);
        Due.be("outputs", x.output(0) * 10 + x.output(1), 89);
        // With just enough it does not wait.
        for (int given = 0; given <= 4; given++) {
            CompiledHouse y = Due.house("int main(){put(get()+get()+get());}");
            for (int n = 0; n < given; n++) {
                y.give(10 + n);
            }
            y.begin(4);
            Due.be("run with " + given, y.run(0), given < 3 ? 2 : 3);
            Due.be("waiting", y.world(3), Math.max(0, given - 3));
            Due.be("outputs", y.world(2), given < 3 ? 0 : 1);
        }
    }

    // "and does it again when it goes on": what was worked out ahead of it is not

    private static void doesItAgainWhenItGoesOn() {
        String t = "int n;int a[9];int t(int p){n++;put(p);return p;}int f(int p,int q,int r){return p*100+q*10+r;}";
        String[] es = {"put(t(1)+get());", "put(f(t(1),get(),t(2)));", "a[t(1)]=get();put(a[1]);", "a[t(1)]+=get();put(a[1]);", "put(t(1)&&get());", "put(t(0)||get());", "put(t(1)?get():4);", "put(a[get()]+t(1));",
            "int x=t(1)*get();put(x);", "put(-get()-t(1));", "while(get())t(1);", "do t(1);while(get());", "halt(t(1)-get());", "return t(3)+get();", "for(int i=get();i<7;i++)t(i);"};
        for (String e : es) {
            String text = t + "int main(){" + e + "}";
            CompiledHouse x = begun(text, 100);
            Due.be("run of " + e, x.run(500), 2);
            int turns = x.world(1);
            int outputs = x.world(2);
            Due.be("run of " + e, x.run(500), 2);
            Due.be("turns of " + e, x.world(1), turns);
            Due.be("outputs of " + e, x.world(2), outputs);
            x.give(5);
            x.give(0);
            int how = x.run(500);
            CompiledHouse twin = Due.house(text);
            twin.give(5);
            twin.give(0);
            twin.begin(100);
            Due.be("how " + e + " is", how, twin.run(500));
            Seen.same(e, x, twin);
        }
    }

    // "halt: the run ends: HALTED, its VALUE that of E"

    private static void halts() {
        for (int n : new int[] {0, 1, -1, LEAST, MOST}) {
            CompiledHouse x = Due.house("int g;int f(int p){put(1);halt(p);g=1;put(2);return 3;}int main(){put(f(get()));g=2;}");
            x.give(n);
            x.begin(100);
            Due.be("run", x.run(5), 4);
            world("HALTED", x, 4, 1, 1, 0, n, -1, 9, 100);
            Due.be("global", x.global(0), 0);
        }
        CompiledHouse x = begun("int main(){while(1)halt(4);}", 4);
        Due.be("run", x.run(0), 1);
        Due.be("run", x.run(1), 4);
        world("HALTED", x, 4, 1, 0, 0, 4, -1, 4, 4);
    }

    // "A CALL .. by which DEPTH would be above the LIMIT is not begun: the run ends: STACK, at the CALL's NAME"

    private static void depthAtTheLimit() {
        String text = "int f(int n){byte b[5];if(n)return @f(n-1)+1;return 0;}int main(){int x[3];put(f(get()));}";
        int at = text.indexOf('@');
        String plain = text.replace("@", "");
        int own = 7;
        int each = 4 + 1 + 2;
        for (int deep = 1; deep <= 5; deep++) {
            for (int more = -1; more <= each; more++) {
                int limit = own + each * deep + more;
                // With so many inner CALLs it needs own + each * (inner + 1).
                for (int inner = deep - 1; inner <= deep; inner++) {
                    int needs = own + each * (inner + 1);
                    CompiledHouse x = Due.house(plain);
                    x.give(inner);
                    x.begin(limit);
                    boolean fits = needs <= limit;
                    Due.be("run with " + limit + " of " + needs, x.run(100), fits ? 3 : 6);
                    int begun = fits ? 0 : (limit - own) / each;
                    Due.be("depth", x.world(6), fits ? 0 : own + each * begun);
                    Due.be("turns", x.world(1), fits ? inner + 1 : begun + 1);
                    Due.be("place", x.world(5), fits ? -1 : begun == 0 ? plain.indexOf("f(get") : at);
                    Due.be("value", x.world(4), 0);
                    Due.be("output", x.output(0), fits ? inner : 0);
                }
            }
        }
        CompiledHouse x = begun("int n;void f(){n++;f();}int main(){f();}", 2000);
        Due.be("run", x.run(499), 1);
        Due.be("depth", x.world(6), 2000);
        Due.be("run", x.run(1), 6);
        world("STACK", x, 6, 500, 0, 0, 0, 19, 2000, 2000);
        Due.be("calls", x.global(0), 499);
    }

    // "A function's MEASURE is 4, 1 for each int FORMAL, 2 for each array FORMAL, and the WORDS .. of all that its STATEMENTs tell"

    private static void measures() {
        String[] formals = {"", "int a", "int a[]", "byte a[]", "int a,int b", "int a[],byte b[]", "int a,byte b[],int c,int d[]", "byte a[],byte b[],byte c[],byte d[]"};
        int[] sizes = {0, 1, 2, 2, 2, 4, 6, 8};
        String[] bodies = {"", "int x;", "int x=1;", "int x[1];", "int x[200];", "byte x[1];", "byte x[4];", "byte x[5];", "for(int i=0;0;);", "for(int i=0;0;)int x;", "if(0)int x;else int x[2];", "{int x;{int x;}}{byte x[8];}",
            "while(0)int x;", "do byte x[9];while(0);", "int x;int y=x;return;", "for(;0;){int i;byte k[2];}"};
        int[] words = {0, 1, 1, 1, 200, 1, 1, 2, 1, 2, 3, 4, 1, 3, 2, 2};
        for (int f = 0; f < formals.length; f++) {
            for (int b = 0; b < bodies.length; b++) {
                CompiledHouse x = Due.house("void f(" + formals[f] + "){" + bodies[b] + "}void main(){" + bodies[b] + "}");
                Due.be("measure of " + formals[f] + " and " + bodies[b], x.look(4, 0), 4 + sizes[f] + words[b]);
                Due.be("measure of main with " + bodies[b], x.look(4, 1), 4 + words[b]);
            }
        }
        // It is what a CALL adds to the DEPTH.
        for (int b = 0; b < bodies.length; b++) {
            String text = "void f(int p,byte q[]){halt(1);" + bodies[b] + "}byte g[1];void main(){f(1,g);}";
            int needs = 4 + 4 + 3 + words[b];
            for (int limit = needs - 1; limit <= needs; limit++) {
                CompiledHouse x = begun(text, limit);
                Due.be("run with " + limit + " of " + text, x.run(1), limit == needs ? 4 : 6);
                Due.be("depth of " + text, x.world(6), limit == needs ? needs : 4);
            }
        }
    }

    // "(of main: at its NAME, as soon as it goes on)"

    private static void noRoomForMain() {
        for (int words = 1; words <= 200; words += 199) {
            String text = "int g=1;int f(){}int  main(){g=2;put(1);int a[" + words + "];}";
            for (int limit = Math.max(4, 2 + words); limit <= 6 + words; limit++) {
                boolean fits = 4 + words <= limit;
                CompiledHouse x = begun(text, limit);
                world("ahead of main", x, 1, 0, 0, 0, 0, -1, 0, limit);
                Due.be("run with " + limit, x.run(0), fits ? 3 : 6);
                world("main with " + limit, x, fits ? 3 : 6, 0, fits ? 1 : 0, 0, 0, fits ? -1 : text.indexOf("main"), 0, limit);
                Due.be("global", x.global(0), fits ? 2 : 1);
                Due.be("it stays", x.run(10), fits ? 3 : 6);
            }
        }
        CompiledHouse x = begun("void main(){}", 4);
        Due.be("just room", x.run(0), 3);
    }

    // "A CALL (behind its TURN)"; its E's are there by then

    private static void stackBehindTheTurn() {
        String text = "int g;int one(){g++;put(g);return g;}void f(int p,int q){int z[30];}int main(){f(one(),get());}";
        CompiledHouse x = begun(text, 20);
        Due.be("run", x.run(1), 2);
        x.give(4);
        Due.be("no TURN is left: PAUSED", x.run(0), 1);
        world("PAUSED", x, 1, 1, 1, 0, 0, -1, 4, 20);
        Due.be("run", x.run(1), 6);
        world("STACK", x, 6, 2, 1, 0, 0, text.indexOf("f(one"), 4, 20);
        // Of CALLs as E's the place is that of the one that is not begun.
        String nested = "int big(int p){int z[30];return p;}int f(int p){return p;}int main(){put(f(f(1)+@big(f(2))));}";
        x = begun(nested.replace("@", ""), 20);
        Due.be("run", x.run(9), 6);
        world("STACK", x, 6, 3, 0, 0, 0, nested.indexOf('@'), 4, 20);
        nested = "int big(int p){int z[30];return p;}int f(int p){return p+@big(1);}int main(){put(f(2));}";
        x = begun(nested.replace("@", ""), 20);
        Due.be("run", x.run(9), 6);
        world("STACK", x, 6, 2, 0, 0, 0, nested.indexOf('@'), 9, 20);
    }

    // "DEPTH is the sum of the MEASUREs of main and of all CALLs that are open"

    private static void depthIsOfWhatIsOpen() {
        String text = "void v(int p){}int f(int a,int b){int x;v(get());return a+b;}int g(byte p[]){v(get());return f(1,f(2,3));}"
                + "int main(){int y[5];byte z[5];v(get());put(g(z));v(get());}";
        CompiledHouse house = begun(text, 100);
        int main = 4 + 5 + 2;
        int g = main + 6;
        int f = g + 7;
        int[] depths = {main, g, f, f, main};
        for (int depth : depths) {
            Due.be("run", house.run(50), 2);
            Due.be("depth", house.world(6), depth);
            house.give(0);
        }
        Due.be("run", house.run(50), 3);
        Due.be("depth", house.world(6), 0);
        // What has been left makes room again.
        CompiledHouse x = begun("int f(int n){int a[20];return n;}int main(){int s;for(int i=0;i<100;i++)s+=f(i);return s;}", 6 + 25);
        Due.be("run", x.run(1000), 3);
        Due.be("value", x.world(4), 4950);
        x.begin(30);
        Due.be("run", x.run(1000), 6);
    }

    // Promise 9: "only the first 2,000 are kept; 0 if there is none such"

    private static void outputKeeps2000() {
        for (int count : new int[] {0, 1, 2, 1999, 2000, 2001, 2500}) {
            CompiledHouse x = begun("int main(){for(int i=0;i<" + count + ";i+=4){put(i+1);if(i+1<" + count + ")put(i+2);if(i+2<" + count + ")put(i+3);if(i+3<" + count + ")put(i+4);}}", 5);
            Due.be("run", x.run(1000), 3);
            Due.be("outputs", x.world(2), count);
            for (int i : new int[] {LEAST, -2, -1, 0, 1, 2, 1997, 1998, 1999, 2000, 2001, 2002, 2499, 2500, MOST}) {
                Due.be("output " + i + " of " + count, x.output(i), i >= 0 && i < count && i < 2000 ? i + 1 : 0);
            }
            x.begin(5);
            Due.be("none any more", x.output(0), 0);
            Due.be("none any more", x.output(Math.min(count, 2000) - 1), 0);
        }
    }

    // Promise 10: "counted up to 2147483647, and it stays there". No object's 512 calls come so far, so the count is set from outside.

    private static void outputCountStaysAtTheGreatest() throws ReflectiveOperationException {
        CompiledHouse x = begun("int main(){put(1);while(1)put(2);}", 4);
        x.run(0);
        Field ports = field(x.getClass(), "ports");
        Field count = ports == null ? null : field(ports.getType(), "shownCount");
        if (count == null) {
            System.out.println("the count of the OUTPUT is not where it was: its end is not looked at");
            return;
        }
        Due.be("outputs", x.world(2), 1);
        count.setInt(ports.get(x), MOST - 2);
        int[] due = {MOST - 1, MOST, MOST, MOST};
        for (int n : due) {
            Due.be("run", x.run(1), 1);
            Due.be("outputs", x.world(2), n);
            Due.be("the first one stays", x.output(0), 1);
            Due.be("none is kept", x.output(2000), 0);
        }
        Due.be("run", x.run(1000), 1);
        Due.be("outputs", x.world(2), MOST);
        x.begin(4);
        Due.be("outputs", x.world(2), 0);
    }

    private static Field field(Class<?> owner, String name) {
        for (Field f : owner.getDeclaredFields()) {
            if (f.getName().equals(name)) {
                f.setAccessible(true);
                return f;
            }
        }
        return null;
    }

    // Promise 10, each number of it in each state

    private static void worldOfEachKind() {
        String text = "int f(int n){put(n);int a[2];if(n==1)return a[n+1];if(n==2)halt(-9);if(n==3)return f(3);if(n==4)while(1);return get();}int main(){put(50);return f(get());}";
        int index = text.indexOf("[n+1]");
        int stack = text.indexOf("f(3)");
        CompiledHouse none = Due.house(text);
        world("without a run", none, 0, 0, 0, 0, 0, -1, 0, 0);
        none.give(3);
        world("without a run, with INPUT", none, 0, 0, 0, 1, 0, -1, 0, 0);
        none.begin(21);
        world("ahead of main", none, 1, 0, 0, 1, 0, -1, 0, 21);
        int[][] due = {{3, 1, 2, 0, -7, -1, 0, 21}, {5, 1, 2, 1, 0, index, 11, 21}, {4, 1, 2, 1, -9, -1, 11, 21}, {6, 3, 3, 1, 0, stack, 18, 21}, {1, 10, 2, 1, 0, -1, 11, 21}};
        for (int n = 0; n < due.length; n++) {
            CompiledHouse x = Due.house(text);
            x.give(n);
            x.give(-7);
            x.begin(21);
            x.run(10);
            world("run " + n, x, due[n]);
            for (int what : new int[] {LEAST, -1, 8, 9, 16, MOST}) {
                Due.be("world " + what, x.world(what), -1);
            }
        }
        CompiledHouse x = begun(text, 21);
        Due.be("run", x.run(0), 2);
        world("WAITS in main", x, 2, 0, 1, 0, 0, -1, 4, 21);
        x.give(0);
        Due.be("run", x.run(0), 1);
        world("PAUSED in main", x, 1, 0, 1, 0, 0, -1, 4, 21);
        Due.be("run", x.run(1), 2);
        world("WAITS in f", x, 2, 1, 2, 0, 0, -1, 11, 21);
    }

    /** The place of INDEX and of STACK, as far behind in the text as can be. */
    private static void placesUpTo3999() {
        String[] marked = {"int a[1];int main(){a[0]=1;%put(a@[1]);}", "int a[1];int main(){%a@[-1]++;}", "void f(){int a[9];}int main(){%@f();}", "int a[9];%int @main(){int z;}"};
        for (int k = 0; k < marked.length; k++) {
            for (int length = 3998; length <= 4000; length++) {
                String text = marked[k].replace("%", " ".repeat(length - marked[k].length() + 2));
                Due.be("length", text.length(), length + 1);
                CompiledHouse x = begun(text.replace("@", ""), 4);
                Due.be("run of " + marked[k], x.run(1), k < 2 ? 5 : 6);
                Due.be("place of " + marked[k], x.world(5), text.indexOf('@'));
            }
        }
    }

    // Promise 11: "as the run has left it by now (ahead of a run, or without one, as at first)"

    private static void globalsAsAtFirstAndByNow() {
        String text = "int a=7;const int k=5;byte b[6]={1,2,3,4,5};int c[2]={-1};byte d[1];void f(int x[],byte y[]){x[1]=k;y[5]=255;y[0]=256;}"
                + "int main(){while(get()){a++;b[2]--;f(c,b);d[0]=9;int c;c=3;}c[0]=2;%}";
        for (String[] end : new String[][] {{"", "3"}, {"halt(1);", "4"}, {"c[2]=1;", "5"}, {"main();", "6"}}) {
            Supplier<CompiledHouse> maker = () -> Due.house(text.replace("%", end[0]));
            CompiledHouse x = maker.get();
            words(x, 7, 0x04030201, 5, -1, 0, 0);
            x.give(1);
            x.begin(16);
            words(x, 7, 0x04030201, 5, -1, 0, 0);
            x.run(0);
            words(x, 7, 0x04030201, 5, -1, 0, 0);
            x.run(1);
            words(x, 8, 0x04020201, 5, -1, 0, 0);
            x.run(1);
            words(x, 8, 0x04020200, 0xff05, -1, 5, 9);
            x.give(0);
            Due.be("run", x.run(0), end[1].equals("6") ? 1 : Integer.parseInt(end[1]));
            words(x, 8, 0x04020200, 0xff05, 2, 5, 9);
            if (end[1].equals("6")) {
                x.give(0);
                Due.be("run", x.run(9), 2);
                words(x, 8, 0x04020200, 0xff05, 2, 5, 9);
            }
            x.begin(16);
            words(x, 7, 0x04030201, 5, -1, 0, 0);
            Due.be("read", x.read(), 12);
            words(x, 0, 0, 0, 0, 0, 0);
        }
    }

    private static void words(CompiledHouse x, int... due) {
        for (int i = 0; i < due.length; i++) {
            Due.be("word " + i, x.global(i), due[i]);
        }
    }

    // Promise 11: "0 if there is none such"

    private static void globalOfNoWord() {
        for (int n : new int[] {1, 2, 500}) {
            CompiledHouse x = Due.house("int a[" + n + "];int main(){int b[20];for(int i=0;i<" + n + ";i++)a[i]=-1;for(int i=0;i<20;i++)b[i]=-1;halt(0);}");
            x.begin(30);
            Due.be("run", x.run(600), 4);
            for (int i : new int[] {LEAST, -1, n, n + 1, n + 4, 1999, 2000, 2001, 2004, 2010, 3999, 4000, MOST}) {
                Due.be("word " + i + " of " + n, x.global(i), 0);
            }
            Due.be("the first", x.global(0), -1);
            Due.be("the last", x.global(n - 1), -1);
        }
        CompiledHouse full = begun("int a[500];int b[500];int c[500];int d[500];int main(){a[0]=1;a[499]=2;d[0]=3;d[499]=4;int z[9];for(int i=0;i<9;i++)z[i]=7;halt(0);}", 20);
        Due.be("run", full.run(50), 4);
        int[][] due = {{0, 1}, {1, 0}, {499, 2}, {500, 0}, {1500, 3}, {1998, 0}, {1999, 4}, {2000, 0}, {2004, 0}, {2005, 0}};
        for (int[] pair : due) {
            Due.be("word " + pair[0], full.global(pair[0]), pair[1]);
        }
        CompiledHouse none = Due.house("const int k=3;int main(){int z[9];}");
        Due.be("no word", none.global(0), 0);
    }

    /** What is fed while a run goes on does not touch it until it is read. */
    private static void theTapeIsNotTheProgram() {
        CompiledHouse x = begun("int g=4;int main(){put(g);while(g){g--;put(g);}}", 10);
        x.run(2);
        Due.feed(x, "int h=9;int main(){put(h);}");
        Due.be("functions", x.look(0, 0), 1);
        Due.be("main's place", x.look(2, 0), 12);
        Due.be("run", x.run(1), 1);
        Due.be("global", x.global(0), 1);
        x.end(3);
        Due.be("run", x.run(9), 3);
        Due.be("outputs", x.world(2), 5);
        Due.be("the tape", x.end(3), 3);
        Due.be("read", x.read(), 3 * 16 + 2);
    }
}
