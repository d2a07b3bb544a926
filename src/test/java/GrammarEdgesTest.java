import java.util.Arrays;
import java.util.LinkedHashSet;
import java.util.Set;

/** The edges of Terms 1, second part: what can stand where (2), what is too deep (3), and which is first of 1 to 3. */
public final class GrammarEdgesTest {
    private static final String MAIN = "int main(){}";
    private static final String NAME = "q";
    private static final String NUMBER = "7";
    private static final String CHANGES = " = += -= *= /= %= &= |= ^= <<= >>= >>>= ++ -- ";
    private static final String JOINS = " || && | ^ & == != < <= > >= << >> >>> + - * / % ? ";
    private static final String OPERANDS = " q 7 get ( - ~ ! ";
    private static final String STATEMENTS = " { ; int byte if while do for break continue return put halt q ";
    private static final String TOLDS = " const int byte void ";
    private static final Set<String> ALL = new LinkedHashSet<>(Arrays.asList((
            "int byte void const if else while do for break continue return put get halt q 7 ( ) [ ] { } , ; ? : "
            + "= += -= *= /= %= &= |= ^= <<= >>= >>>= ++ -- || && | ^ & == != < <= > >= << >> >>> + - * / % ~ !").split(" ")));

    public static void main(String[] args) {
        behindTolds();
        behindFormals();
        behindStatements();
        behindLoops();
        behindSimples();
        behindOperands();
        listsOfNoneOneAndMore();
        eachOfTheseAsThe41st();
        whatIsClosedIsNotOpen();
        openOutsideOfFunctions();
        whichIsFirst();
        Due.done();
    }

    /** Behind this text these tokens can stand, and all others can't; nor can the end. */
    private static void behind(String text, String allowed) {
        for (String token : ALL) {
            String whole = text + " " + token + " ";
            int got = Due.read(new CompiledHouse(), whole);
            boolean refused = got == (text.length() + 1) * 16 + 2;
            Due.be("read of " + whole + "(" + got + ")", refused, !allowed.contains(" " + token + " "));
        }
        if (!allowed.contains(" END ")) {
            Due.fault(text + " @", 2);
        }
    }

    private static void inMain(String text, String allowed) {
        behind("int main(){" + text, allowed);
        behind("int f(){while(1){" + text, allowed);
    }

    private static void behindTolds() {
        behind("", TOLDS + "END ");
        behind("const", " int ");
        behind("const int", " q ");
        behind("const int a", " = ");
        behind("const int a =", OPERANDS);
        behind("const int a = 1", JOINS + " ; ");
        behind("const int a = 1 ;", TOLDS + "END ");
        behind("int", " q ");
        behind("byte", " q ");
        behind("void", " q ");
        behind("int a", " ; = [ ( ");
        behind("byte a", " [ ");
        behind("void a", " ( ");
        behind("int a ;", TOLDS + "END ");
        behind("int a =", OPERANDS);
        behind("int a = 1", JOINS + " ; ");
        behind("int a [", OPERANDS);
        behind("byte a [", OPERANDS);
        behind("int a [ 1", JOINS + " ] ");
        behind("int a [ 1 ]", " ; = ");
        behind("byte a [ 1 ]", " ; = ");
        behind("int a [ 1 ] =", " { ");
        behind("int a [ 1 ] = {", OPERANDS);
        behind("int a [ 1 ] = { 1", JOINS + " , } ");
        behind("int a [ 1 ] = { 1 ,", OPERANDS);
        behind("byte a [ 1 ] = { 1 , 2", JOINS + " , } ");
        behind("byte a [ 1 ] = { 1 }", " ; ");
        behind("byte a [ 1 ] = { 1 } ;", TOLDS + "END ");
    }

    private static void behindFormals() {
        for (String result : new String[] {"int", "void"}) {
            behind(result + " f (", " ) int byte ");
            behind(result + " f ( int", " q ");
            behind(result + " f ( byte", " q ");
            behind(result + " f ( int a", " , ) [ ");
            behind(result + " f ( byte a", " [ ");
            behind(result + " f ( int a [", " ] ");
            behind(result + " f ( byte a [", " ] ");
            behind(result + " f ( int a [ ]", " , ) ");
            behind(result + " f ( byte a [ ]", " , ) ");
            behind(result + " f ( int a ,", " int byte ");
            behind(result + " f ( int a , byte b [ ]", " , ) ");
            behind(result + " f ( )", " { ");
            behind(result + " f ( int a )", " { ");
            behind(result + " f ( ) {", STATEMENTS + "} ");
            behind(result + " f ( ) { }", TOLDS + "END ");
        }
    }

    private static void behindStatements() {
        inMain("", STATEMENTS + "} ");
        inMain(";", STATEMENTS + "} ");
        inMain("{", STATEMENTS + "} ");
        inMain("{ }", STATEMENTS + "} ");
        inMain("int", " q ");
        inMain("byte", " q ");
        inMain("int a", " ; = [ ");
        inMain("byte a", " [ ");
        inMain("int a ;", STATEMENTS + "} ");
        inMain("int a =", OPERANDS);
        inMain("int a = 1", JOINS + " ; ");
        inMain("int a [", OPERANDS);
        inMain("int a [ 1 ]", " ; ");
        inMain("byte a [ 1 ]", " ; ");
        inMain("if", " ( ");
        inMain("if (", OPERANDS);
        inMain("if ( 1", JOINS + " ) ");
        inMain("if ( 1 )", STATEMENTS);
        inMain("if ( 1 ) ;", STATEMENTS + "} else ");
        inMain("if ( 1 ) { }", STATEMENTS + "} else ");
        inMain("if ( 1 ) a = 1 ;", STATEMENTS + "} else ");
        inMain("if ( 1 ) a = 1", JOINS + " ; ");
        inMain("if ( 1 ) ; else", STATEMENTS);
        inMain("if ( 1 ) ; else ;", STATEMENTS + "} ");
        inMain("if ( 1 ) if ( 1 ) ; else ;", STATEMENTS + "} else ");
        inMain("if ( 1 ) if ( 1 ) ; else ; else ;", STATEMENTS + "} ");
        inMain("if ( 1 ) ; else if ( 1 ) ;", STATEMENTS + "} else ");
        inMain("if ( 1 ) while ( 1 ) ;", STATEMENTS + "} else ");
        inMain("if ( 1 ) { if ( 1 ) ; }", STATEMENTS + "} else ");
        inMain("break", " ; ");
        inMain("continue", " ; ");
        inMain("return", OPERANDS + "; ");
        inMain("return 1", JOINS + " ; ");
        inMain("return ;", STATEMENTS + "} ");
        for (String word : new String[] {"put", "halt"}) {
            inMain(word, " ( ");
            inMain(word + " (", OPERANDS);
            inMain(word + " ( 1", JOINS + " ) ");
            inMain(word + " ( 1 )", " ; ");
            inMain(word + " ( 1 ) ;", STATEMENTS + "} ");
        }
    }

    private static void behindLoops() {
        inMain("while", " ( ");
        inMain("while (", OPERANDS);
        inMain("while ( 1", JOINS + " ) ");
        inMain("while ( 1 )", STATEMENTS);
        inMain("while ( 1 ) ;", STATEMENTS + "} ");
        inMain("do", STATEMENTS);
        inMain("do ;", " while ");
        inMain("do { }", " while ");
        inMain("do if ( 1 ) ;", " while else ");
        inMain("do if ( 1 ) ; else ;", " while ");
        inMain("do ; while", " ( ");
        inMain("do ; while (", OPERANDS);
        inMain("do ; while ( 1", JOINS + " ) ");
        inMain("do ; while ( 1 )", " ; ");
        inMain("do ; while ( 1 ) ;", STATEMENTS + "} ");
        inMain("do do ; while ( 1 ) ;", " while ");
        inMain("do while ( 1 ) ;", " while ");
        inMain("for", " ( ");
        inMain("for (", " ; int q ");
        inMain("for ( int", " q ");
        inMain("for ( int a", " = ");
        inMain("for ( int a =", OPERANDS);
        inMain("for ( int a = 1", JOINS + " ; ");
        inMain("for ( int a = 1 ;", OPERANDS + "; ");
        inMain("for ( a", CHANGES + "[ ( ");
        inMain("for ( a = 1", JOINS + " ; ");
        inMain("for ( a ++", " ; ");
        inMain("for ( a ( )", " ; ");
        inMain("for ( ;", OPERANDS + "; ");
        inMain("for ( ; 1", JOINS + " ; ");
        inMain("for ( ; ;", " ) q ");
        inMain("for ( ; 1 ;", " ) q ");
        inMain("for ( ; ; a", CHANGES + "[ ( ");
        inMain("for ( ; ; a = 1", JOINS + " ) ");
        inMain("for ( ; ; a --", " ) ");
        inMain("for ( ; ; a ( )", " ) ");
        inMain("for ( ; ; )", STATEMENTS);
        inMain("for ( ; ; ) ;", STATEMENTS + "} ");
    }

    private static void behindSimples() {
        inMain("a", CHANGES + "[ ( ");
        inMain("a =", OPERANDS);
        inMain("a >>>=", OPERANDS);
        inMain("a = 1", JOINS + " ; ");
        inMain("a += 1", JOINS + " ; ");
        inMain("a = b", JOINS + " ; [ ( ");
        inMain("a ++", " ; ");
        inMain("a --", " ; ");
        inMain("a [", OPERANDS);
        inMain("a [ 1", JOINS + " ] ");
        inMain("a [ 1 ]", CHANGES);
        inMain("a [ 1 ] =", OPERANDS);
        inMain("a [ 1 ] ++", " ; ");
        inMain("a (", OPERANDS + ") ");
        inMain("a ( 1", JOINS + " , ) ");
        inMain("a ( 1 ,", OPERANDS);
        inMain("a ( 1 , 2", JOINS + " , ) ");
        inMain("a ( )", " ; ");
        inMain("a ( 1 )", " ; ");
        inMain("a ( ) ;", STATEMENTS + "} ");
    }

    private static void behindOperands() {
        for (String[] e : new String[][] {{"put (", ")"}, {"a = (", ")"}, {"a = b [", "]"}, {"a [", "]"}, {"while (", ")"}, {"return", ";"}, {"int a =", ";"}, {"byte a [", "]"}}) {
            String over = " " + e[1] + " ";
            inMain(e[0] + " 1", JOINS + over);
            inMain(e[0] + " q", JOINS + over + " [ ( ");
            inMain(e[0] + " -", OPERANDS);
            inMain(e[0] + " ~ ! -", OPERANDS);
            inMain(e[0] + " - 1", JOINS + over);
            inMain(e[0] + " q [ 1 ]", JOINS + over);
            inMain(e[0] + " q ( )", JOINS + over);
            inMain(e[0] + " ( 1 )", JOINS + over);
            inMain(e[0] + " ( 1", JOINS + " ) ");
            inMain(e[0] + " get", " ( ");
            inMain(e[0] + " get (", " ) ");
            inMain(e[0] + " get ( )", JOINS + over);
            inMain(e[0] + " 1 ?", OPERANDS);
            inMain(e[0] + " 1 ? 2", JOINS + " : ");
            inMain(e[0] + " 1 ? 2 :", OPERANDS);
            inMain(e[0] + " 1 ? 2 : 3", JOINS + over);
            inMain(e[0] + " 1 ? 2 ? 3 : 4", JOINS + " : ");
            inMain(e[0] + " 1 ? 2 ? 3 : 4 : 5", JOINS + over);
            inMain(e[0] + " 1 ? 2 : 3 ? 4 : 5", JOINS + over);
            for (String join : JOINS.trim().split(" ")) {
                inMain(e[0] + " 1 " + join, OPERANDS);
            }
        }
    }

    // "x? may be left out, x* comes any number of times (none, too), x,, is one or more with commas between"

    private static void listsOfNoneOneAndMore() {
        Due.fault("@", 12);
        Due.fine(MAIN);
        Due.fine("int a;" + MAIN + "int b;");
        Due.fine("int main(){;}");
        Due.fine("int main(){;;}");
        Due.fault("int a[3]={@};" + MAIN, 2);
        Due.fine("int a[3]={1};" + MAIN);
        Due.fine("int a[3]={1,2};" + MAIN);
        Due.fault("int a[3]={1,@};" + MAIN, 2);
        Due.fault("int a[3]={@,1};" + MAIN, 2);
        Due.fault("int a[3]={1,@,2};" + MAIN, 2);
        Due.fault("int a[3]={1 @2};" + MAIN, 2);
        Due.fine("int f(){}" + MAIN);
        Due.fine("int f(int a){}" + MAIN);
        Due.fine("int f(int a,int b){}" + MAIN);
        Due.fault("int f(int a,@){}" + MAIN, 2);
        Due.fault("int f(@,int a){}" + MAIN, 2);
        Due.fine("void f(int a,int b){}int main(){f(1,2);}");
        Due.fault("void f(int a,int b){}int main(){f(1,@);}", 2);
        Due.fault("void f(int a,int b){}int main(){f(@,1);}", 2);
        Due.fault("void f(int a,int b){}int main(){f(1 @2);}", 2);
        Due.fine("int i;int main(){for(;;)break;for(i=0;;)break;for(;i;);for(;;i++)break;for(i=0;i;i++);}");
    }

    // 3: "it would be the 41st of these that is open: ( [ { till they are closed, ? till its E is over,
    // if, while, do, for till the STATEMENT that they begin is (what is behind else, too)"

    /** So many { , main's among them, then the marked text, and the closing of all. */
    private static String nested(int depth, String statements) {
        return "int a;int b[9];int f(int x,int y){}int main()" + "{".repeat(depth) + statements + "}".repeat(depth);
    }

    /** Statements that open so many at the most, the last of these at the mark. */
    private static void opens(int most, String marked) {
        String plain = marked.replace("@", "");
        Due.fine(nested(40 - most, plain));
        Due.fine(nested(40 - most, plain.repeat(3)));
        Due.fine(nested(39 - most, plain + "{" + plain + "}" + plain));
        Due.fault(nested(41 - most, marked), 3);
        Due.fault(nested(40 - most, plain + "{" + marked + "}"), 3);
    }

    private static void eachOfTheseAsThe41st() {
        opens(1, "@{}");
        opens(1, "a=@(1);");
        opens(1, "a=b@[1];");
        opens(1, "b@[1]=1;");
        opens(1, "b@[1]++;");
        opens(1, "f@(1,2);");
        opens(1, "a=f@(1,2);");
        opens(1, "a=get@();");
        opens(1, "put@(1);");
        opens(1, "a=1@?2:3;");
        opens(1, "return 1@?2:3;");
        opens(2, "{int x@[3];}");
        opens(2, "if@(1);");
        opens(2, "while@(0);");
        opens(2, "do;while@(0);");
        opens(2, "for@(;0;);");
        opens(2, "for@(int i=0;0;i++);");
        for (String word : new String[] {"if(1);", "while(0);", "do;while(0);", "for(;0;);"}) {
            Due.fault(nested(40, "@" + word), 3);
            Due.fine(nested(38, word));
        }
        Due.fine(nested(40, "a=1;a++;;int c;c=-a;"));
        Due.fault(nested(41, "").replace("{".repeat(41), "{".repeat(40) + "@{"), 3);
        Due.fine(nested(40, ""));
    }

    private static void whatIsClosedIsNotOpen() {
        opens(2, "a=(@(1))+((2));");
        opens(2, "a=b[b@[1]]+b[b[2]];");
        opens(2, "a=f(f@(1,2),f(3,4));");
        opens(2, "{@{}{}}");
        // The E of a ? is over behind what comes behind its : .
        opens(2, "a=1?@(2):3;");
        opens(2, "a=1?2:@(3);");
        opens(1, "a=@(1)?2:3;");
        opens(2, "a=1?2:3@?4:5;");
        opens(2, "a=1?2@?3:4:5;");
        opens(3, "a=1?2:3?4:5@?6:7;");
        opens(2, "a=f(1@?2:3,(4));");
        opens(2, "b[1@?2:3]=(4);");
        opens(2, "a=(1@?2:3)+(4);");
        opens(2, "a=f(1@?2:3,4?5:6);");
        opens(2, "put(1@?2:3);");
        opens(3, "if(1@?2:3);");
        // if, to the end of what is behind else.
        opens(2, "if@(1){}{}");
        opens(2, "if@(1){}else{}");
        opens(2, "if@(1);else a=(1);");
        opens(3, "if(1);else a=(@(1));");
        opens(3, "if(1);else{@{}}");
        opens(3, "if(1);else if@(1);");
        opens(3, "if(1)if@(1);else;else;");
        opens(4, "if(1){if@(1);}else{}");
        opens(4, "if(1);else if(1);else if@(1);");
        opens(3, "if(1)while@(0);else{}");
        opens(3, "if(1);else do;while@(0);");
        opens(3, "if(1);else for@(;0;);");
        // The header is closed ahead of the STATEMENT.
        opens(2, "while@(0){}");
        opens(3, "while(0){@{}}");
        opens(3, "while(@(0));");
        opens(3, "while(0)while@(0);");
        opens(2, "do@{}while(0);");
        opens(3, "do{@{}}while(0);");
        opens(3, "do;while(@(0));");
        opens(3, "do do;while@(0);while(0);");
        opens(3, "do a=(1)?@(2):3;while(0);");
        opens(2, "for@(a=0;0;a++){}");
        opens(3, "for(a=@(0);(0);a=(0));");
        opens(3, "for(;0;)for@(;0;);");
        opens(3, "for(f@(1,2);0;f(1,2));");
        opens(3, "for(int i=0@?1:2;0;i=0?1:2);");
        Due.fine("int a;int main(){" + "if(1);".repeat(300) + "while(0);".repeat(60) + "do;while(0);".repeat(50) + "a=1?2:3;".repeat(60) + "}");
        Due.fine("int a;int main(){" + "if(1);else;".repeat(100) + "for(;0;);".repeat(60) + "{}".repeat(300) + "a=(1);".repeat(60) + "}");
        Due.fine("int main(){" + "if(1){}else ".repeat(37) + "{}}");
        Due.fault("int main(){" + "if(1){}else ".repeat(38) + "if@(1){}}", 3);
    }

    private static void openOutsideOfFunctions() {
        String[] heads = {"const int a=", "int a="};
        for (String head : heads) {
            Due.fine(head + "(".repeat(40) + "1" + ")".repeat(40) + ";" + MAIN);
            Due.fault(head + "(".repeat(40) + "@(1" + ")".repeat(41) + ";" + MAIN, 3);
            Due.fine(head + "1?2:".repeat(40) + "3;" + MAIN);
            Due.fault(head + "1?2:".repeat(40) + "3@?4:5;" + MAIN, 3);
            Due.fine(head + "1?".repeat(40) + "1" + ":2".repeat(40) + ";" + MAIN);
            Due.fault(head + "1?".repeat(40) + "1@?2:3" + ":4".repeat(40) + ";" + MAIN, 3);
        }
        Due.fine("int a[" + "(".repeat(39) + "1" + ")".repeat(39) + "]={" + "(".repeat(39) + "1" + ")".repeat(39) + "};" + MAIN);
        Due.fault("int a[" + "(".repeat(39) + "@(1" + ")".repeat(40) + "];" + MAIN, 3);
        Due.fault("int a[1]={" + "(".repeat(39) + "@(1" + ")".repeat(40) + "};" + MAIN, 3);
        Due.fault("int a[2]={1," + "(".repeat(39) + "@(1" + ")".repeat(40) + "};" + MAIN, 3);
        Due.fine("int f(int a[],int b[],byte c[],byte d[]){}" + "int g(int a[],int b[],byte c[],byte d[])" + "{".repeat(40) + "}".repeat(40) + MAIN);
    }

    // "token by token, the first one of 1 .., 2 .., 3 .."

    private static void whichIsFirst() {
        Due.fault("@$ ;", 1);
        Due.fault("@; $", 2);
        Due.fault("int @; $", 2);
        Due.fault("int @$ ;", 1);
        String deep = "int a;int main()" + "{".repeat(40);
        Due.fault(deep + "@{ $", 3);
        Due.fault(deep + "@{ ) ", 3);
        Due.fault(deep + "@$ {", 1);
        Due.fault(deep + "@) {", 2);
        // What can't stand there can't stand there, however deep.
        Due.fault(deep + "@(", 2);
        Due.fault(deep + "@[", 2);
        Due.fault(deep + "@?", 2);
        Due.fault(deep + "a=@{", 2);
        Due.fault(deep + "a=@[", 2);
        Due.fault(deep + "a=@?", 2);
        Due.fault(deep + "a=@if", 2);
        Due.fault(deep + "a=@while", 2);
        Due.fault(deep + "a=@do", 2);
        Due.fault(deep + "a=@for", 2);
        Due.fault(deep + "a=1@(", 2);
        Due.fault(deep + "a=1@[", 2);
        Due.fault(deep + "a=1@{", 2);
        Due.fault(deep + "a=@(", 3);
        Due.fault(deep + "a=a@[", 3);
        Due.fault(deep + "a=a@(", 3);
        Due.fault(deep + "a=1@?", 3);
        Due.fault(deep + "@if", 3);
        Due.fault(deep + "@while", 3);
        Due.fault(deep + "@do", 3);
        Due.fault(deep + "@for", 3);
        Due.fault(deep + "int b@[", 3);
        Due.fault(deep + "int b@(", 2);
        Due.fault(deep + "@else", 2);
        // All others wait until there is none of 1 to 3.
        Due.fault("int x=y;int x;int main(int a){break;b=1;}@$", 1);
        Due.fault("int x=y;int x;int main(int a){break;b=1;}@;", 2);
        Due.fault("int x=y;int x;int main(int a){break;b=1;" + "{".repeat(39) + "@{", 3);
        Due.fault("int x=@y;int x;int main(int a){break;b=1;}", 4);
    }
}
