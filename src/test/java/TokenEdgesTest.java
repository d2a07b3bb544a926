import java.util.ArrayList;
import java.util.List;

/** The edges of Terms 1, first part: what parts tokens, and where NAMES, WORDS, NUMBERS and SIGNS end. */
public final class TokenEdgesTest {
    private static final String MAIN = "int main(){}";
    private static final int[] NOTHING = {};
    private static final String SIGN_BYTES = "()[]{},;?:=+-*/%&|^<>~!";

    public static void main(String[] args) {
        bytes10And32PartTokens();
        whatATokenBeginsWith();
        aLineNoteGoesUpToTheNext10();
        aLineNoteMayGoToTheEnd();
        aNoteEndsAtTheNextStarAndSlash();
        aNoteThatDoesNotEnd();
        notesPartTokens();
        namesGoOnWithLettersDigitsAnd_();
        namesHaveAtMost16();
        differentNamesAreDifferent();
        namesAreNoWords();
        numbersHave1To10Digits();
        numbersAreAtMost4294967295();
        hexadecimalsHave1To8Digits();
        nothingRightBehindANumber();
        signsAreAsLongAsCanBe();
        signsThatStandAlone();
        signsOfAllKindsAgainstTheOracle();
        placesOfTokens();
        theFullTape();
        Due.done();
    }

    private static boolean isPart(int b) {
        return b >= '0' && b <= '9' || b >= 'a' && b <= 'z' || b >= 'A' && b <= 'Z' || b == '_';
    }

    // "Bytes 10 and 32 part tokens"

    private static void bytes10And32PartTokens() {
        for (int b = 0; b < 256; b++) {
            String text = "int" + (char) b + MAIN.substring(4);
            if (b == 10 || b == 32) {
                Due.fine(text);
                Due.fine(text.replace("n(", "n" + (char) b + "(") + (char) b + (char) b);
            } else if (isPart(b)) {
                Due.fault(text, 2, 0);
            } else {
                Due.fault(text, SIGN_BYTES.indexOf(b) >= 0 ? 2 : 1, 3);
            }
        }
        Due.fine("\n \n  int\n\n main \n ( \n ) { \n } \n ");
    }

    private static void whatATokenBeginsWith() {
        for (int b = 0; b < 256; b++) {
            boolean token = isPart(b) || SIGN_BYTES.indexOf(b) >= 0;
            boolean gap = b == 10 || b == 32;
            Due.fault("" + (char) b, gap ? 12 : token ? 2 : 1, gap ? 1 : 0);
            Due.fault(MAIN + (char) b, gap ? 0 : token ? 2 : 1, gap ? 0 : MAIN.length());
        }
    }

    // "from // up to the next 10 (or the end)"

    private static void aLineNoteGoesUpToTheNext10() {
        for (int b = 0; b < 256; b++) {
            Due.fine("//" + (char) b + "\n" + MAIN);
            String text = "//" + (char) b + MAIN;
            Due.fault(text, b == 10 ? 0 : 12, b == 10 ? 0 : text.length());
        }
        Due.fault("//\n@$", 1);
        Due.fault("//\n//\n@$\n", 1);
        Due.fault("int//\n@int//", 2);
        Due.fine("int main//\n(//)\n)//{\n{//}\n}");
        Due.fine("// /*\n" + MAIN);
        Due.fine("//*/\n" + MAIN);
        Due.fault("//*\n@*/" + MAIN, 2);
    }

    private static void aLineNoteMayGoToTheEnd() {
        Due.fine(MAIN + "//");
        Due.fine(MAIN + "// $ /*");
        Due.fine(MAIN + "//\n");
        Due.fault(MAIN + "@/", 2);
        Due.fault(MAIN + "@/ /", 2);
        Due.fault("//" + MAIN + "@", 12);
    }

    // "from a / with a * right behind it up to the next * with a / right behind it"

    private static void aNoteEndsAtTheNextStarAndSlash() {
        for (int b = 0; b < 256; b++) {
            Due.fine("/*" + (char) b + "*/" + MAIN);
            if (b != '/') {
                Due.fine("/**" + (char) b + "*/" + MAIN.replace("(", "/*" + (char) b + "**/("));
            }
        }
        Due.fine("/**/" + MAIN + "/**/");
        Due.fine("/***/" + MAIN + "/****/");
        Due.fine("/*/*/" + MAIN);
        Due.fine("/*//*/" + MAIN);
        Due.fine("/*//\n*/" + MAIN);
        Due.fine("/* * / */" + MAIN);
        Due.fault("/**/@*/" + MAIN, 2);
        Due.fault("/*/**/@*/" + MAIN, 2);
        Due.fault("/* */@$", 1);
        Due.fault("@/ **/" + MAIN, 2);
        Due.fine("/**//**//***///\n" + MAIN);
    }

    // 1: "or a NOTE of / and * does not end (at its /)"

    private static void aNoteThatDoesNotEnd() {
        for (String note : new String[] {"/*", "/* ", "/**", "/***", "/*/", "/*//", "/* * /", "/*\n", "/*//\n", "/* /* ", "/*$", "/*/**"}) {
            Due.fault("@" + note, 1);
            Due.fault(MAIN + "@" + note, 1);
            Due.fault("int@" + note, 1);
            Due.fault("/**/ @" + note, 1);
            Due.fault("int main(){put(1@" + note, 1);
            Due.fine(MAIN + note + "*/");
            Due.fine(MAIN + "//" + note.replace("\n", ""));
        }
        // A token ahead of it that can't stand there is first.
        Due.fault("int @;/*", 2);
        Due.fault("int main(){@)/*", 2);
    }

    private static void notesPartTokens() {
        Due.fine("int/**/main(){}");
        Due.fine("int//\nmain(){}");
        Due.fault("@in/**/t main(){}", 2);
        Due.fault("int a=1/**/@2;" + MAIN, 2);
        Due.fault("int a=0/**/@x1;" + MAIN, 2);
        Due.fault("int main(){int a;a/**//**/@b=1;}", 2);
        Due.fault("int main(){int a;a@+/**/+;}", 2);
        Due.fault("int main(){int a;a@+/**/=1;}", 2);
        Due.fault("int main(){int a;a=a>/**/@>a;}", 2);
        Due.fine("int main(){int a;a=a/**//a;a=a/a//\n;a=a//\n/a;}");
        Due.output("int main(){int a=12;put(a/**//4);put(a/ /**/3);put(a//\n/2);}", NOTHING, 3, 4, 6);
    }

    // "NAMES: a letter or _, then letters, digits, _ ; at most 16, no WORDS"

    private static void namesGoOnWithLettersDigitsAnd_() {
        for (int b = 0; b < 256; b++) {
            char c = (char) b;
            boolean letter = isPart(b) && (b < '0' || b > '9');
            boolean gap = b == 10 || b == 32;
            CompiledHouse x = new CompiledHouse();
            Due.be("read of a name with " + b, Due.read(x, "int a" + c + ";" + MAIN) == 0, isPart(b) || gap);
            Due.be("read of the name " + b, Due.read(x, "int " + c + ";" + MAIN) == 0, letter);
            if (isPart(b)) {
                // It is another NAME than the one without it, and the same as itself.
                Due.fine("int a;int a" + c + ";" + MAIN);
                Due.fault("int a" + c + ";int @a" + c + ";" + MAIN, 5);
                Due.fine("int q" + c + "z;int q" + c + ";int q;" + MAIN);
            }
        }
        Due.fine("int a;int A;int _;int a0;int a_;int A0;int _0;" + MAIN);
        for (int b = '0'; b <= '9'; b++) {
            Due.fault("int @" + (char) b + ";", 2);
            Due.fault("int @" + (char) b + "a;", 1);
            Due.fault("int @" + (char) b + "_;", 1);
        }
    }

    private static void namesHaveAtMost16() {
        String long20 = "aB_4567890123456789x";
        for (int n = 1; n <= 20; n++) {
            String name = long20.substring(0, n);
            if (n <= 16) {
                Due.fine("int " + name + ";" + MAIN);
                Due.fine(MAIN + "int f(int " + name + "){" + name + "=" + name + ";}");
            } else {
                Due.fault("int @" + name + ";" + MAIN, 1);
                Due.fault(MAIN + "int f(){@" + name + "=1;}", 1);
                Due.fault("@" + name, 1);
            }
        }
        Due.fault("int @" + "_".repeat(17) + ";", 1);
        Due.fine("int " + "_".repeat(16) + ";int " + "_".repeat(15) + ";" + MAIN);
        Due.fault("int @" + "a".repeat(3000) + ";", 1);
        // All 16 count.
        Due.fine("int abcdefghijklmnoP;int abcdefghijklmnoQ;int Abcdefghijklmnop;int Bbcdefghijklmnop;" + MAIN);
        Due.fault("int abcdefghijklmnoP;int @abcdefghijklmnoP;" + MAIN, 5);
    }

    /** As many NAMES in one text as can be: none is told already, and each one that is told again is. */
    private static void differentNamesAreDifferent() {
        String parts = "abcdefghijklmnopqrstuvwxyzABCDEFGHIJKLMNOPQRSTUVWXYZ_0123456789";
        List<String> names = new ArrayList<>();
        for (int first = 0; first < 53; first++) {
            names.add(parts.substring(first, first + 1));
            for (int second = 0; second < 63; second++) {
                String name = "" + parts.charAt(first) + parts.charAt(second);
                if (!name.equals("if") && !name.equals("do")) {
                    names.add(name);
                }
            }
        }
        allDifferent(names);
        // Long ones that differ in one place alone.
        for (int at = 0; at < 16; at++) {
            names.clear();
            for (int tail = 0; tail < 6; tail++) {
                for (int c = 0; c < (at == 0 ? 53 : 63); c++) {
                    char[] name = ("aLong_Name_" + tail * 7919 + "zzzzzzzzzz").substring(0, 16).toCharArray();
                    name[at] = parts.charAt(c);
                    String text = new String(name);
                    if (!names.contains(text)) {
                        names.add(text);
                    }
                }
            }
            allDifferent(names);
        }
    }

    private static void allDifferent(List<String> names) {
        StringBuilder text = new StringBuilder(MAIN);
        List<String> told = new ArrayList<>();
        for (String name : names) {
            text.append("int ").append(name).append(";");
            told.add(name);
            if (text.length() > 3950 || name.equals(names.get(names.size() - 1))) {
                Due.fine(text.toString());
                for (int k = 0; k < told.size(); k += 5) {
                    Due.fault(text + "int @" + told.get(k) + ";", 5);
                }
                text = new StringBuilder(MAIN);
                told.clear();
            }
        }
    }

    private static void namesAreNoWords() {
        String words = "int byte void const if else while do for break continue return put get halt";
        for (String word : words.split(" ")) {
            Due.fault("int @" + word + ";" + MAIN, 2);
            Due.fault("int @" + word + "(){}" + MAIN, 2);
            Due.fault("int f(int @" + word + "){}" + MAIN, 2);
            Due.fault("int main(){int @" + word + ";}", 2);
            String shorter = word.substring(0, word.length() - 1);
            String[] names = {word + "_", "_" + word, word + "0", word + word, word.toUpperCase(), shorter, word.substring(0, 1).toUpperCase() + word.substring(1)};
            for (String name : names) {
                if (name.length() <= 16) {
                    Due.fine("int " + name + ";int main(){" + name + "=1;}");
                } else {
                    Due.fault("int @" + name + ";", 1);
                }
            }
        }
        Due.fine("int main_;int mai;int Main;int main(){}");
    }

    // "NUMBERS: 1 to 10 digits, at most 4294967295 (wrapping)"

    private static void numbersHave1To10Digits() {
        for (int n = 1; n <= 13; n++) {
            for (String digit : new String[] {"0", "1"}) {
                String number = digit.repeat(n);
                if (n <= 10) {
                    Due.output("int main(){put(" + number + ");}", NOTHING, Long.parseLong(number));
                } else {
                    Due.fault("int main(){put(@" + number + ");}", 1);
                }
            }
        }
        for (int n = 0; n <= 9; n++) {
            Due.output("int main(){put(" + n + ");put(1" + n + ");put(000000000" + n + ");}", NOTHING, n, 10 + n, n);
            Due.fault("int main(){put(@0000000000" + n + ");}", 1);
        }
    }

    private static void numbersAreAtMost4294967295() {
        Due.output("int main(){put(2147483647);put(2147483648);put(2147483649);put(4294967294);put(4294967295);put(-2147483648);put(-4294967295);}",
                NOTHING, 2147483647, -2147483648, -2147483647, -2, -1, -2147483648, 1);
        Due.output("const int a=4294967295;const int b=2147483648;int c=4294967294;int main(){put(a);put(b);put(c);}", NOTHING, -1, -2147483648, -2);
        for (String great : new String[] {"4294967296", "4294967297", "4300000000", "5000000000", "9999999999"}) {
            Due.fault("int main(){put(@" + great + ");}", 1);
            Due.fault("int a=@" + great + ";" + MAIN, 1);
            Due.fault("@" + great, 1);
        }
        // What is too great is no token, even where a NUMBER can't stand.
        Due.fault("int @4294967296;", 1);
        Due.fault("int @4294967295;", 2);
    }

    // "or 0x and 1 to 8 digits 0 .. 9 a .. f A .. F", "(0x alone is none)"

    private static void hexadecimalsHave1To8Digits() {
        for (int n = 0; n <= 10; n++) {
            for (String digit : new String[] {"0", "1", "f", "F", "9", "a", "A"}) {
                String number = "0x" + digit.repeat(n);
                if (n >= 1 && n <= 8) {
                    Due.output("int main(){put(" + number + ");}", NOTHING, Long.parseLong(digit.repeat(n), 16));
                } else {
                    Due.fault("int main(){put(@" + number + ");}", 1);
                }
            }
        }
        for (int b = 0; b < 256; b++) {
            boolean digit = "0123456789abcdefABCDEF".indexOf(b) >= 0;
            String first = "int a=0x" + (char) b + ";" + MAIN;
            Due.fault(first, digit ? 0 : 1, digit ? 0 : 6);
            if (digit) {
                Due.output("int main(){put(0x" + (char) b + ");put(0x1" + (char) b + ");}", NOTHING,
                        Integer.parseInt("" + (char) b, 16), 16 + Integer.parseInt("" + (char) b, 16));
            } else if (isPart(b)) {
                Due.fault("int a=0x1" + (char) b + ";" + MAIN, 1, 6);
            }
        }
        Due.output("int main(){put(0x7fffffff);put(0x80000000);put(0xfffffffe);put(0xFFFFFFFF);put(0x00000001);put(0xaBcDeF09);}",
                NOTHING, 2147483647, -2147483648, -2, -1, 1, 0xabcdef09);
        Due.fault("int a=@0X1;", 1);
        Due.fault("int a=@00x1;", 1);
        Due.fault("int a=@1x1;", 1);
        Due.fault("int a=0 @x1;", 2);
        Due.fault("int a=@0xx1;", 1);
        Due.fault("int a=@0x 1;", 1);
        Due.fault("int @0x;", 1);
    }

    // "no letter, digit or _ right behind"

    private static void nothingRightBehindANumber() {
        for (int b = 0; b < 256; b++) {
            boolean digit = b >= '0' && b <= '9';
            boolean gap = b == 10 || b == 32;
            for (String number : new String[] {"1", "12", "0", "123456789"}) {
                CompiledHouse x = new CompiledHouse();
                int got = Due.read(x, "int a=" + number + (char) b + ";" + MAIN);
                if (isPart(b) && !digit) {
                    Due.be("a number with " + b + " behind", got, 6 * 16 + 1);
                } else if (digit || gap) {
                    Due.be("a number with " + b + " behind", got, 0);
                } else if (SIGN_BYTES.indexOf(b) >= 0) {
                    Due.be("a number with " + b + " behind", got % 16, 2);
                } else {
                    Due.be("a number with " + b + " behind", got, (6 + number.length()) * 16 + 1);
                }
            }
            if (isPart(b)) {
                Due.fault("int a=@4294967295" + (char) b + ";", 1);
                Due.fault("int a=@0xffffffff" + (char) b + ";", 1);
                Due.fault("int a=1 @" + (b < 'A' ? "1" : "a") + ";", 2);
            }
        }
    }

    // "TOKENS, each as long as can be"

    private static void signsAreAsLongAsCanBe() {
        String open = "int main(){int a;int b;int c;";
        String[] wrong = {
            "a=b@+++c;", "a=b+ @++c;", "a=b@--c;", "a=b@---c;", "a=b- @--c;", "a=@--b;", "a=@++b;", "a=b@++;",
            "a=b&&@&c;", "a=b||@|c;", "a=b<<@<c;", "a=b>>>@>c;", "a=b@>>>=c;", "a=b@<<=c;", "a=b@>>=c;", "a@>>>>=c;", "a=b==@=c;", "a=b!=@=c;",
            "a=b<=@=c;", "a=b>=@=c;", "a=b<@>c;", "a=b@+=c;", "a=@+b;", "a=@*b;", "a=@&b;", "a= @=b;", "a@+ +;", "a@+ =1;", "a@- -;",
            "a=b> @>c;", "a=b> @=c;", "a=b@! =c;", "a=b& @&c;", "a=b| @|c;", "a@<< =b;", "a@> >=b;", "a=b< @<c;", "a=b/ @/c;", "a=b/ @*c;", "a=b*@/c;", "a@/ =b;",
            "a@&&=b;", "a@||=b;", "a@~=b;", "a@!=b;", "a@<=b;", "a@>=b;", "a@==b;", "a=b^@^c;", "a=b%@%c;", "a=b*@*c;", "a+=@+c;", "a++@+;", "a++@++;",
            "a--@-;", "a=b?@?c:a;", "a=b@:c;", "a=b-@>c;", "a=b@=>c;", "a=b<-@>c;", "a=b@!c;", "a=b@~c;"};
        for (String statement : wrong) {
            Due.fault(open + statement + "}", 2);
        }
        String[] right = {
            "a=!!b;", "a=~~b;", "a=!-~b;", "a=b==!c;", "a=b!=!c;", "a=b<-c;", "a=b>-c;", "a=b>~c;", "a=b&-c;", "a=b|!c;", "a=b*-c;", "a=b/-c;", "a=b%-c;", "a=b^-c;",
            "a=b<<-c;", "a=b>>-c;", "a=b>>>-c;", "a=b+-c;", "a=b- -c;", "a=-b;", "a-=-b;", "a=!b;", "a=~b;", "a+=!b;", "a>>>=-b;", "a=b<=-c;", "a=b&&!c;", "a=b||-c;",
            "a=b?-c:-a;", "a=b?c:a;", "a = b ? c : a ;", "a=b<!c;", "a=b>!c;"};
        for (String statement : right) {
            Due.fine(open + statement + "}");
        }
        Due.output("int main(){int a=5;a>>>=1;put(a);a<<=3;put(a);a>>=2;put(a);put(a>>>1);put(a<<1>>1);put(a<=4);put(a>=5);put(a&&0||a);put(a&1|a^2);}",
                NOTHING, 2, 16, 4, 2, 4, 1, 0, 1, 6);
        Due.output("int main(){int a=5;a++;put(a);a--;a--;put(a);a+=10;put(a);a-=4;put(a);a*=3;put(a);a/=4;put(a);a%=5;put(a);a|=8;put(a);a&=12;put(a);a^=1;put(a);put(a!=9);put(a==9);}",
                NOTHING, 6, 4, 14, 10, 30, 7, 2, 10, 8, 9, 0, 1);
    }

    /** Signs that are no part of a longer one, twice and with = behind them. */
    private static void signsThatStandAlone() {
        String open = "int a;int b;int c[2];int f(int p){}int main(){";
        String[] wrong = {
            "a=b?a:@:b;", "a=c[@[1]];", "f(@,,1);", "f(1,@,2);", "f(@=1);", "a=(@=1);", "c[@=1]=1;", "a=c[1]@=1;", "for(;@=1;);", "for(@=1;;);", "a=b?a:@=b;", "a=b?@=a:b;", "a=(b)@=a;", "{}@=1;", "{@=1;}", "a=~@=b;", "a=1@,b;",
            "f(1)@=1;", "f(1,@=2);", ";@=1;", "a=b@];", "a=(b@];", "a=c[b@);", "a=c[1]@];", "a=(b)@);", "{}}@}", "c@]=1;", "a@)=1;", "a=b?a?@:b;"};
        for (String statement : wrong) {
            Due.fault(open + statement + "}", 2);
        }
        Due.fault("int a[1]={@=1};", 2);
        Due.fault("int a[1]={@{1}};", 2);
        Due.fault("int a[1]={1,@,2};", 2);
        Due.fault("int a[@[1]];", 2);
        Due.fault("int a[1]@];", 2);
        Due.fault("int a[@=1];", 2);
        Due.fault("int a;@;", 2);
        Due.fault("int f(@(){}", 2);
        Due.fault("int f()@){}", 2);
        Due.fault("int f(@=){}", 2);
        Due.fault("int f(int a,@,int b){}", 2);
        Due.fine("int a;int c[2];int f(int p){{{}}{;;;}a=((1));a=c[c[1]];c[c[0]]=((2));f(((1)));f(f((1)));}int main(){{{{}}}}");
    }

    /** All rows of up to three bytes of signs, and longer ones of < > = alone. */
    private static void signsOfAllKindsAgainstTheOracle() {
        rows("", "=+-*/%&|^<>!~?:", 3);
        rows("", "<>=", 6);
    }

    private static void rows(String row, String bytes, int more) {
        if (!row.isEmpty()) {
            for (String text : new String[] {"int main(){int a;a" + row + "a;}", "int main(){int a;a=a" + row + "a;}", "int main(){int a;a" + row + ";}"}) {
                Due.be("read of " + text, Due.read(new CompiledHouse(), text), new Oracle(text).fault);
            }
        }
        for (int i = 0; i < bytes.length() && more > 0; i++) {
            rows(row + bytes.charAt(i), bytes, more - 1);
        }
    }

    // "FAULTS have a kind and a PLACE, the first byte of a token (of the end: the text's length)"

    private static void placesOfTokens() {
        for (int n = 0; n < 30; n++) {
            Due.fault(" ".repeat(n) + "@$", 1);
            Due.fault("\n".repeat(n) + "@;", 2);
            Due.fault("/*" + " ".repeat(n) + "*/int@", 2);
            Due.fault("int" + " ".repeat(n) + "@", 2);
            Due.fault("int a;" + " ".repeat(n) + "@", 12);
            Due.fault("int//" + " ".repeat(n) + "@", 2);
            Due.fault("int a" + " ".repeat(n) + "@>>>=", 2);
            Due.fault("int a ; int" + " ".repeat(n) + "/**/ @a ;" + MAIN, 5);
            CompiledHouse x = Due.house("int" + " ".repeat(n + 1) + "main" + "\n".repeat(n) + "(){}");
            Due.be("main's place", x.look(2, 0), n + 4);
        }
    }

    /** A text of 3,999 and of 4,000 bytes, with what counts at its end. */
    private static void theFullTape() {
        for (int length = 3998; length <= 4000; length++) {
            Due.fine(" ".repeat(length - MAIN.length()) + MAIN);
            Due.fine(MAIN + "\n".repeat(length - MAIN.length()));
            Due.fine("/*" + "*".repeat(length - MAIN.length() - 4) + "*/" + MAIN);
            Due.fine("//" + "/".repeat(length - MAIN.length() - 3) + "\n" + MAIN);
            Due.fine(MAIN + "//" + "$".repeat(length - MAIN.length() - 2));
            Due.fault(MAIN + "@/*" + "$".repeat(length - MAIN.length() - 2), 1);
            Due.fault(" ".repeat(length - 1) + "@$", 1);
            Due.fault(" ".repeat(length - 1) + "@/", 2);
            Due.fault(" ".repeat(length - 2) + "@/*", 1);
            Due.fault(" ".repeat(length - 3) + "int@", 2);
            Due.fault(" ".repeat(length) + "@", 12);
            Due.fault(MAIN + " ".repeat(length - MAIN.length() - 1) + "@x", 2);
            Due.fault(" ".repeat(length - 17) + "@" + "x".repeat(17), 1);
            Due.fault(" ".repeat(length - 16) + "@" + "x".repeat(16), 2);
            Due.fault("int main(){put(1" + "+1".repeat((length - 16) / 2) + " ".repeat(length % 2) + "@", 2);
        }
        Due.output("int main(){put(1" + "+1".repeat(1990) + ");}", NOTHING, 1991);
        Due.output("int main(){put(" + "-" + " -".repeat(1990) + "1);}", NOTHING, -1);
        Due.output("int main(){put(" + "!".repeat(3980) + "7);}", NOTHING, 1);
    }
}
