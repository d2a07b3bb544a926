/** Texts as full as a tape can be, and runs that leave as much on the stack as can be, against the oracle. */
public final class EdgesTest {
    private static final String GLOBALS = "int a;int b[9];byte c[9];int f(){return 1;}int g(int x[],int y[],byte z[],int w){return w;}";

    public static void main(String[] args) throws InterruptedException {
        Thread thread = new Thread(null, EdgesTest::all, "oracle", 1L << 30);
        thread.start();
        thread.join();
        Due.done();
    }

    private static void all() {
        String[] dense = {
            "a++;", "b[0]++;", "c[0]--;", "a=-a;", "a=!a&&a||a;", "f();", "g(b,b,c,a);", "{}", ";", "put(a);", "if(a);", "if(a);else;", "while(0);",
            "for(;0;);", "do;while(0);", "a=a?a:a;", "a=b[0]?b[0]:b[0];", "a=" + Due.times("b[0]?b[0]:", 30) + "1;", "a=" + Due.times("b[", 30) + "0" + Due.times("]", 30) + ";",
            "b[b[b[0]]]+=b[b[b[1]]];", "a=" + Due.times("!", 500) + "a;", "a=" + Due.times("a&&", 300) + "a;", "a=" + Due.times("a-", 500) + "a;",
            "a=" + Due.times("1?1:(", 18) + "2" + Due.times(")", 18) + ";", "put(get());", "a=" + Due.times("-", 3000) + "1;".replace("--", "-"),
            "int a;{int a;}", "{int x[1];}", "if(a)a++;else a--;", "a=f()+f();", "{byte x[1];x[0]=a;a=x[0];}", "while(a<3){a++;continue;break;}"};
        for (String snippet : dense) {
            full(snippet.startsWith("a=---") ? snippet.replace("-", "- ") : snippet);
        }
        names();
        functions();
        deepValues();
    }

    private static void full(String snippet) {
        StringBuilder text = new StringBuilder(GLOBALS + "int main(){");
        while (text.length() + snippet.length() < 4000) {
            text.append(snippet);
        }
        text.append("}");
        compare(text.toString());
        compare("int a=" + text.length() + ";" + text.substring("int a;".length(), Math.min(text.length(), 3980)) + "}");
    }

    private static void compare(String text) {
        CompiledHouse house = new CompiledHouse();
        Oracle oracle = new Oracle(text);
        Due.be("read of " + text, Due.read(house, text), oracle.fault);
        if (oracle.fault != 0) {
            return;
        }
        java.util.List<Integer> input = new java.util.ArrayList<>();
        for (int i = 0; i < 490; i++) {
            input.add(i);
            house.give(i);
        }
        for (int limit : new int[] {2000, 1000, 37}) {
            Oracle.Run run = oracle.new Run(limit, 1000, input.subList(0, limit == 2000 ? 490 : 0)).go();
            if (limit != 2000) {
                house.read();
                Due.read(house, text);
            }
            house.begin(limit);
            Due.be("run of " + text, house.run(1000), run.how);
            Due.be("turns of " + text, house.world(1), run.taken);
            Due.be("outputs of " + text, house.world(2), run.count);
            Due.be("value of " + text, house.world(4), run.value);
            Due.be("place of " + text, house.world(5), run.place);
            Due.be("depth of " + text, house.world(6), run.depth);
            for (int i = 0; i < run.output.size(); i++) {
                Due.be("output of " + text, house.output(i), run.output.get(i));
            }
            for (int i = 0; i < oracle.words; i++) {
                Due.be("global of " + text, house.global(i), run.word(i));
            }
        }
    }

    /** As many NAMEs as a tape can hold. */
    private static void names() {
        StringBuilder text = new StringBuilder("int main(){}");
        for (int i = 0; text.length() < 3980; i++) {
            text.append("int ").append(shortName(i)).append(';');
        }
        compare(text.toString());
        StringBuilder formals = new StringBuilder("int main(){f(1);}int f(int ").append(shortName(0));
        for (int i = 1; formals.length() < 3980; i++) {
            formals.append(",int ").append(shortName(i));
        }
        compare(formals + "){}");
        StringBuilder soup = new StringBuilder("int main(){put(a");
        for (int i = 0; soup.length() < 3980; i++) {
            soup.append('+').append(shortName(i));
        }
        compare(soup + ");}");
    }

    private static String shortName(int i) {
        String letters = "abcdefghijklmnopqrstuvwxyzABCDEFGHIJKLMNOPQRSTUVWXYZ_";
        String name = String.valueOf(letters.charAt(i % 53));
        return i < 53 ? name : name + letters.charAt(i / 53 - 1);
    }

    private static void functions() {
        StringBuilder text = new StringBuilder();
        for (int i = 0; text.length() < 3980; i++) {
            text.append("int ").append(i == 7 ? "main" : shortName(i)).append("(){}");
        }
        compare(text.toString());
        compare(text.substring(0, text.length() - 2) + "{}}");
    }

    /** Each CALL leaves many values waiting while the next one is open. */
    private static void deepValues() {
        StringBuilder open = new StringBuilder("int n;int f(){n++;if(n>450)return n;return ");
        for (int i = 0; i < 36; i++) {
            open.append("1|1^1&1==1<1<<1+1*(");
        }
        open.append("f()").append(Due.times(")", 36)).append(";}int main(){put(f());}");
        compare(open.toString());
    }
}
