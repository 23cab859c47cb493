/** Promise 4: the boundary cases of words and of what makes a text WRONG (1 TEXTS). */
public final class WrongEdgesTest {
    private static final String MAIN = "proc main(){}";
    private static final String[] WORDS = {
        "type", "proc", "send", "recv", "pass", "take", "pick", "case", "spawn", "become", "if", "else", "while", "put",
        "get", "int", "end"
    };

    public static void main(String[] args) {
        Answers answers = new Answers();
        blanks(answers);
        lettersAndDigits(answers);
        wordsAreNoNames(answers);
        nineDigits(answers);
        longerSigns(answers);
        bytesThatBeginNoWord(answers);
        whatLacks(answers);
        noneOrMore(answers);
        semicolons(answers);
        firstOfSeveral(answers);
        secondOfTwo(answers);
        fortyFirst(answers);
        toItsEnd(answers);
        behindAllThat(answers);
        namesInOrderOfTheText(answers);
        loopsOfNames(answers);
        mainLacks(answers);
        nameBehindTilde(answers);
        answers.finish("WrongEdgesTest");
    }

    private static void blanks(Answers answers) {
        answers.about(4, "Blanks (32) and bytes 10 stand between words as one likes");
        answers.good("type A=+{a!int end;b end};proc f(c:A){pick c a;send c-1;}" + MAIN, 2);
        answers.good("\n \ntype  A\n=\n+ { a ! int end ; b end } ;\nproc f ( c : A ) { pick c a ; send c - 1 ; }  " + MAIN + " \n", 2);
        answers.good("proc main(){put(1);put-1;x =\n1 ; if(x){}else{}while(0){}}", 1);
        answers.wrongAt("^procmain(){}");
        answers.wrongAt("proc ma ^in(){}");
        answers.wrongAt("proc main(){putx^;}");
        answers.wrongAt("proc main(){x=1 ^2;}");
        answers.wrongAt("proc main(){x=1 ^= = 2;}");
    }

    /** The bytes just below and above the letters and digits. */
    private static void lettersAndDigits(Answers answers) {
        answers.about(4, "a NAME (a letter a .. z, A .. Z, and all letters and digits behind it)");
        answers.good("proc main(){a=1;z=2;A=3;Z=4;a0=5;a9=6;zAZ09az=7;}", 1);
        String outside = "@[`|_$.\"'#>\\";
        for (int i = 0; i < outside.length(); i++) {
            answers.wrongAt("proc main(){^" + outside.charAt(i) + "=1;}");
            answers.wrongAt("proc main(){x^" + outside.charAt(i) + "=1;}");
        }
        answers.wrongAt("proc main(){^9a=1;}");
        answers.wrongAt("proc main(){put 9^a;}");
        answers.wrongAt("proc main(){a^:=1;}");
        answers.wrongAt("proc main(){a^/=1;}");
    }

    private static void wordsAreNoNames(Answers answers) {
        answers.about(4, "a NAME: not one of the words that follow");
        for (String word : WORDS) {
            answers.wrongAt("proc ^" + word + "(){}");
            answers.wrongAt("type ^" + word + "=end;");
            answers.wrongAt("proc f(^" + word + "){}");
            answers.wrongAt("type A=+{^" + word + " end};");
            answers.wrongAt("proc main(){put ^" + word + ";}");
            answers.wrongAt("proc main(){get ^" + word + ";}");
            answers.wrongAt("proc main(){pick c ^" + word + ";}");
            answers.wrongAt("proc main(){spawn ^" + word + "();}");
            String upper = word.toUpperCase();
            answers.good("proc main(){" + word + "s=1;" + word + "1=2;" + upper + "=3;x" + word + "=4;}", 1);
        }
        answers.good("type main=+{main end};proc f(main:main){pick main main;main=1;}proc main(){main=1;}", 2);
    }

    private static void nineDigits(Answers answers) {
        answers.about(4, "a NUMBER (all digits that stand there, 9 at most); ten digits");
        answers.good("proc main(){put 999999999;put 000000000;put 1;}", 1);
        answers.wrongAt("proc main(){put ^1000000000;}");
        answers.wrongAt("proc main(){put ^0000000000;}");
        answers.wrongAt("proc main(){put 1+^12345678901234567890;}");
        answers.wrongAt("proc main(){^1234567890;}");
        answers.wrongAt("proc main(){put 123456789 ^0;}");
        answers.good("proc main(){a1234567890=1;put a1234567890;}", 1);
        answers.wrongAt("^1234567890");
    }

    private static void longerSigns(Answers answers) {
        answers.about(4, "the signs .. == (the longer one counts)");
        answers.good("proc main(){x=y==z;x=1==-1;}", 1);
        answers.wrongAt("proc main(){x^==1;}");
        answers.wrongAt("proc main(){x=y==^=z;}");
        answers.wrongAt("proc main(){x=y^= =z;}");
        answers.wrongAt("proc main(){x=y==^==z;}");
        answers.wrongAt("type A^==end;" + MAIN);
        answers.wrongAt("proc main(){put 1<^<2;}");
        answers.wrongAt("proc main(){put 1<^=2;}");
    }

    /** Every byte there is, at a place where a STATEMENT or } may stand. */
    private static void bytesThatBeginNoWord(Answers answers) {
        answers.about(4, "the first byte of a word that can't stand there (a byte that begins no word)");
        for (int b = 0; b < 256; b++) {
            boolean letter = b >= 'a' && b <= 'z' || b >= 'A' && b <= 'Z';
            int due = b == 32 || b == 10 ? 1 : b == '}' || letter ? -1 - 13 : -1 - 12;
            answers.due("program() with byte " + b, Answers.read("proc main(){" + (char) b + "}"), due);
        }
        answers.wrongAt("^\0" + MAIN);
        answers.wrongAt(MAIN + "^\0");
        answers.wrongAt("proc main(){x=1;^#;;;1234567890}");
    }

    /** The text is cut off behind each of its words; main stands last, and all NAMES ahead of their use. */
    private static void whatLacks(Answers answers) {
        answers.about(4, "the TAPE's length, if one lacks");
        String text = "type S = ! int ? ( S ) + { a end ; b ~ S } ; proc f ( c : S , n ) { send c n ; take c d ;"
                + " if n < 1 { pick c a ; } else { pick c b ; case c { a { } b { } } } recv c x ; pass c d ; spawn f ( c , 1 ) ;"
                + " spawn c f ( n + 2 * - 3 ) ; while ( n ) { get n ; put n == 1 ; } become f ( c , n ) ; } proc main ( ) { }";
        for (int at = text.indexOf(' '); at >= 0; at = text.indexOf(' ', at + 1)) {
            answers.due("program() of " + text.substring(0, at), Answers.read(text.substring(0, at)), -1 - at);
            answers.due("the same and a blank", Answers.read(text.substring(0, at) + " \n"), -1 - at - 2);
        }
    }

    private static void noneOrMore(Answers answers) {
        answers.about(4, "PARAMETERS, ARGUMENTS, STATEMENTS: none; ALTERNATIVES, LABELS of case, PROGRAM: one or more");
        answers.good("proc f(){}proc main(){spawn f();}", 2);
        answers.good("proc f(a){}proc main(){spawn f(1);}", 2);
        answers.good("proc f(a,b){}proc main(){spawn f(1,2);}", 2);
        answers.wrongAt("proc f(^,){}" + MAIN);
        answers.wrongAt("proc f(a ^b){}" + MAIN);
        answers.wrongAt("proc f(a,^,b){}" + MAIN);
        answers.wrongAt("proc f(a,b,^){}" + MAIN);
        answers.wrongAt("proc main(){spawn f(^,);}");
        answers.wrongAt("proc main(){spawn f(1,^,2);}");
        answers.wrongAt("proc main(){become f(1,2,^);}");
        answers.good("type A=&{a end};proc f(c:A){case c{a{}}}" + MAIN, 2);
        answers.wrongAt("type A=&{^};" + MAIN);
        answers.wrongAt("type A=&{^;a end};" + MAIN);
        answers.wrongAt("type A=&{a end;^;b end};" + MAIN);
        answers.wrongAt("proc main(){case c{^}}");
        answers.wrongAt("^");
        answers.wrongAt("  \n ^");
    }

    private static void semicolons(Answers answers) {
        answers.about(4, "a ; belongs to those that have one here, but case has none behind its }");
        String[] with = {"x=1", "send c 1", "recv c x", "pass c d", "take c d", "pick c a", "spawn f()", "spawn c f()",
            "become f()", "put 1", "get x"};
        for (String statement : with) {
            answers.wrongAt("proc main(){" + statement + "^}");
            answers.wrongAt("proc main(){" + statement + ";^;}");
        }
        String[] without = {"case c{a{}}", "if 1{}else{}", "while 1{}"};
        for (String statement : without) {
            answers.wrongAt("proc main(){" + statement + "^;}");
        }
        answers.good("proc main(){if 1{}else{}while 0{}if 1{}else{}}", 1);
        answers.wrongAt("type A=end ^" + MAIN);
        answers.wrongAt(MAIN + "^;");
    }

    private static void firstOfSeveral(Answers answers) {
        answers.about(4, "A program is WRONG at the first place (as it is read)");
        answers.wrongAt("type A=end;type ^A=end;proc main(){;}");
        answers.wrongAt("proc main(){^;}type A=end;type A=end;");
        answers.wrongAt("proc main(){put ^1234567890;put @;}");
        answers.wrongAt("proc main(){put " + "-".repeat(39) + "^-@;}");
        answers.wrongAt("proc main(){put ^@;put " + "-".repeat(40) + "1;}");
        answers.wrongAt("proc f(a,^a,1){}" + MAIN);
    }

    private static void secondOfTwo(Answers answers) {
        answers.about(4, "the second of two same NAMES");
        answers.wrongAt("type A=end;type B=end;type ^A=end;type B=end;" + MAIN);
        answers.wrongAt("proc f(){}" + MAIN + "proc ^main(){}proc f(){}");
        answers.wrongAt("proc f(a,b,c,^b,c){}" + MAIN);
        answers.wrongAt("proc f(a,^a:A){}" + MAIN);
        answers.wrongAt("type A=+{a end;b end;^b end;a end};" + MAIN);
        answers.wrongAt("type A=&{a end;b +{a end;c end};^a end};" + MAIN);
        answers.wrongAt("proc main(){case c{a{}b{}^b{}a{}}}");
        answers.wrongAt("proc main(){case c{a{case d{a{}b{}}}b{}^a{}}}");
        answers.good("type A=end;type a=end;proc A(){}proc a(){}proc f(a,A){}" + MAIN, 4);
        answers.good("proc f(a,b){}proc g(a,b){}proc h(f,g,h){}" + MAIN, 4);
        answers.good("type A=+{a &{a end;b end};b +{a end;b end}};" + MAIN, 1);
    }

    /** Each kind of opening word as the 40th, which may stand, and as the 41st. */
    private static void fortyFirst(Answers answers) {
        answers.about(4, "the word that opens a 41st { or ( , or - of an ATOM, in one another");
        String blocks = "proc f(x){}proc main(){" + "while 1{".repeat(38);
        String ends = "}".repeat(39);
        String[][] kinds = {{"while 1", "{}"}, {"if 1", "{}else{}"}, {"put ", "(1);"}, {"put ", "-1;"}, {"spawn f", "(1);"},
            {"become f", "(1);"}, {"x=1+", "(2);"}, {"x=1-", "-2;"}, {"put x*", "-y;"}};
        for (String[] kind : kinds) {
            answers.good(blocks + kind[0] + kind[1] + ends, 2);
            answers.wrongAt(blocks + "while 1{" + kind[0] + "^" + kind[1]);
        }
        answers.wrongAt(blocks + "while 1{case c^{a{}}");
        answers.wrongAt(blocks + "case c{a^{}}");
        answers.wrongAt(blocks + "if 1{}else{if 1^{");
        String types = "type A=" + "!(".repeat(39);
        String[] heads = {"!(end)end", "?(end)end", "+{a end}", "&{a end}"};
        for (String head : heads) {
            answers.good(types + head + ")end".repeat(39) + ";" + MAIN, 1);
            answers.wrongAt(types + "?(" + head.charAt(0) + "^" + head.substring(1));
        }
        answers.badAt("proc f(c:" + "!(".repeat(39) + "end" + ")end".repeat(39) + "){^}" + MAIN);
        answers.wrongAt("proc f(c:" + "!(".repeat(39) + "!^(");
    }

    /** What is closed again, or has come to its end, does not count. */
    private static void toItsEnd(Answers answers) {
        answers.about(4, "in one another (to its end)");
        answers.good("proc main(){put " + "-1*".repeat(60) + "-1;put " + "(1)+".repeat(60) + "1;" + "while 0{}".repeat(60) + "}", 1);
        answers.good("proc main(){put " + "-".repeat(39) + "1-" + "-".repeat(39) + "1;}", 1);
        answers.good("proc main(){put " + "-(".repeat(19) + "-1" + ")".repeat(19) + "-1;}", 1);
        answers.wrongAt("proc main(){put " + "-(".repeat(19) + "-^-1");
        answers.wrongAt("proc main(){put " + "-(".repeat(19) + "-^(1)");
        answers.wrongAt("proc main(){put -1-(-1)-(" + "-".repeat(38) + "^-1);}");
        answers.good("type A=" + "!(end)".repeat(60) + "end;" + MAIN, 1);
        answers.good("type A=" + "+{a ".repeat(20) + "!(end)".repeat(5) + "end" + "}".repeat(20) + ";" + MAIN, 1);
        answers.good("proc f(a,b,c){" + "while 1{".repeat(39) + "}".repeat(40) + MAIN, 2);
    }

    private static void behindAllThat(Answers answers) {
        answers.about(4, "Behind all that: at the first NAME in a TYPE that is no type's, behind spawn or become that is no proc's");
        answers.wrongAt("type A=B;proc main(){^;}");
        answers.wrongAt("type A=B;proc main(){spawn g();}type ^A=end;");
        answers.wrongAt("proc main(){spawn g();put " + "-".repeat(39) + "^-1;}");
        answers.wrongAt("proc main(){spawn ^g();}");
    }

    private static void namesInOrderOfTheText(Answers answers) {
        answers.about(4, "at the first NAME (in the text)");
        answers.wrongAt("proc main(){spawn ^g();}type A=B;");
        answers.wrongAt("type A=^B;proc main(){spawn g();}");
        answers.wrongAt("proc f(c:^B){spawn g();}" + MAIN);
        answers.wrongAt("proc f(){spawn ^g();}proc h(c:B){}" + MAIN);
        answers.wrongAt("proc f(){spawn c ^g();become h();}" + MAIN);
        answers.wrongAt("proc f(){become ^h();}proc k(c:!(B)C){}" + MAIN);
        answers.wrongAt("type A=!(A)+{a A;b ~^B};type C=D;" + MAIN);
        answers.wrongAt("proc f(){become ^A();}type A=end;type B=f;" + MAIN);
        answers.wrongAt("type B=^f;proc f(){become A();}type A=end;" + MAIN);
        answers.good("proc f(){become g();}proc g(){spawn h(1);}type A=~B;type B=end;proc h(x){}" + MAIN, 4);
    }

    private static void loopsOfNames(Answers answers) {
        answers.about(4, "then at the first type's NAME (behind the word type) that leads to itself by NAMES and ~ NAMES alone");
        answers.wrongAt("type A=A;proc main(){spawn ^g();}");
        answers.wrongAt("type  ^A=~A;type B=B;");
        answers.wrongAt("type A=C;type ^B=~C;type C=~B;" + MAIN);
        answers.wrongAt("type A=B;type B=D;type ^C=D;type D=E;type E=C;" + MAIN);
        answers.wrongAt("type A=end;type B=A;type ^C=C;proc f(){}");
        answers.good("type A=!int A;type B=?(B)end;type C=+{a C};type D=&{a ~D;b D};type E=~A;type F=E;" + MAIN, 1);
    }

    private static void mainLacks(Answers answers) {
        answers.about(4, "then at the TAPE's length, if there is no proc main, or it has PARAMETERS");
        answers.wrongAt("proc f(){} \n ^");
        answers.wrongAt("type A=end;^");
        answers.wrongAt("proc main(a){}^");
        answers.wrongAt("proc main(c:!int end){send c 1;}proc f(){}^");
        answers.wrongAt("proc mains(){}proc Main(){}proc mai(){}^");
        answers.wrongAt("type main=+{main end};proc f(main){main=1;}^");
        answers.good("proc f(main){}" + MAIN, 2);
        answers.due("program() of a full TAPE without main", Answers.read("proc f(){}" + " ".repeat(2990)), -3001);
    }

    private static void nameBehindTilde(Answers answers) {
        answers.about(4, "TYPE: .. ~ NAME");
        answers.wrongAt("type A=~^;" + MAIN);
        answers.wrongAt("type A=!int ~^;" + MAIN);
        answers.wrongAt("type A=+{a ~^;b end};" + MAIN);
        answers.wrongAt("type A=&{a ~^};" + MAIN);
        answers.wrongAt("type A=!(~^)end;" + MAIN);
        answers.wrongAt("proc f(c:~^){}" + MAIN);
        answers.wrongAt("proc f(c:~^,d){}" + MAIN);
        answers.wrongAt("type A=~^(B);" + MAIN);
        answers.wrongAt("type A=~^int;" + MAIN);
    }
}
