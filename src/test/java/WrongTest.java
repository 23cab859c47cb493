/** Promise 4: where program() tells a text to be WRONG (1 TEXTS). */
public final class WrongTest {
    private static final String MAIN = "proc main(){}";

    public static void main(String[] args) {
        Answers answers = new Answers();
        words(answers);
        programs(answers);
        types(answers);
        statements(answers);
        expressions(answers);
        sameNames(answers);
        depth(answers);
        lackingNames(answers);
        loops(answers);
        mains(answers);
        answers.finish("WrongTest");
    }

    private static void words(Answers answers) {
        answers.about(4, "the first byte of a word that can't stand there");
        answers.wrongAt("^");
        answers.wrongAt(" \n ^");
        answers.wrongAt("^\tproc main(){}");
        answers.wrongAt("^\rproc main(){}");
        answers.wrongAt("proc main(){}^\0");
        answers.wrongAt("proc main(){}^\u0080");
        answers.wrongAt("proc main(){^@}");
        answers.wrongAt("proc ma^_in(){}");
        answers.wrongAt("proc main(){put ^1234567890;}");
        answers.wrongAt("proc main(){put ^0000000001;}");
        answers.good("proc main(){put 123456789;}", 1);
        answers.wrongAt("proc main(){put 12^ab;}");
        answers.wrongAt("proc ^1main(){}");
        answers.wrongAt("proc ^type(){}");
        answers.wrongAt("proc ^int(){}");
        answers.good("proc main(){typed=1;ends=2;int2=3;Proc=4;}", 1);
        answers.wrongAt("type A^==end;" + MAIN);
        answers.wrongAt("proc main(){x^==3;}");
        answers.wrongAt("proc main(){x=3==^=4;}");
        answers.good("\nproc\n\nmain ( ) { put\n1 ; }\n", 1);
        answers.good("proc main(){A=1;Z=2;a=3;z=4;aAzZ09=5;}", 1);
        answers.wrongAt("proc main(){^[=1;}");
        answers.wrongAt("proc main(){^`=1;}");
        answers.wrongAt("proc main(){^.;}");
        answers.wrongAt("proc main(){x=1^>2;}");
        answers.good("proc main(){put 1==2;put 1<2;}", 1);
    }

    private static void programs(Answers answers) {
        answers.about(4, "PROGRAM: one or more of: type NAME = TYPE ; or proc NAME ( PARAMETERS ) BLOCK");
        answers.wrongAt("^main(){}");
        answers.wrongAt(MAIN + "^;");
        answers.wrongAt("type A=end ^proc main(){}");
        answers.wrongAt("proc^");
        answers.wrongAt("proc ^(){}");
        answers.wrongAt("proc main^{}");
        answers.wrongAt("proc main(^{}");
        answers.wrongAt("proc main(a,^){}");
        answers.wrongAt("proc main(^,a){}");
        answers.wrongAt("proc f(a:^){}");
        answers.wrongAt("proc f(a:^int){}");
        answers.wrongAt("proc f(a ^b){}");
        answers.wrongAt("proc main()^;");
        answers.wrongAt("proc main(){^");
        answers.wrongAt("proc main(){}^}");
        answers.good("type A=end;proc f(a:A,b,c:~A){}" + MAIN + "type B=A;", 2);
    }

    private static void types(Answers answers) {
        answers.about(4, "TYPE: end; NAME; ~ NAME; ! or ? and int, or ( TYPE ), and a TYPE; + or & and { ALTERNATIVES }");
        answers.wrongAt("type ^=end;");
        answers.wrongAt("type A ^end;");
        answers.wrongAt("type A=^;");
        answers.wrongAt("type A=^int;");
        answers.wrongAt("type A=~^end;");
        answers.wrongAt("type A=~^~A;");
        answers.wrongAt("type A=!^A;");
        answers.wrongAt("type A=!int^;");
        answers.wrongAt("type A=?(end^;");
        answers.wrongAt("type A=?(end)^;");
        answers.wrongAt("type A=?(^)end;");
        answers.wrongAt("type A=?(^int)end;");
        answers.wrongAt("type A=+^(a end);");
        answers.wrongAt("type A=+{^};");
        answers.wrongAt("type A=&{a^};");
        answers.wrongAt("type A=&{a end;^};");
        answers.wrongAt("type A=&{a end^,b end};");
        answers.wrongAt("type A=&{^end end};");
        answers.wrongAt("type A=end ^end;");
        answers.wrongAt("type A=^(end);");
        answers.good("type A=!int?(~A)+{a A;b &{c ~A}};" + MAIN, 1);
    }

    private static void statements(Answers answers) {
        answers.about(4, "BLOCK: { STATEMENTS }, none or more");
        String[] texts = {
            "^;", "^else{}", "^type", "^end", "^3", "^{}", "x^;", "x=^;", "x=1^", "x=1^,", "send ^1;", "send c^;",
            "send c 1 ^2;", "recv c^;", "recv c ^1;", "recv c x^,", "pass c^;", "pass c d ^e;",
            "take ^(c) d;", "take c ^case;", "pick c^;", "pick c ^1;", "pick c a^", "case ^{}", "case c^;",
            "case c{^}", "case c{a^;}", "case c{a{}^;", "case c{a{}}^;", "case c{^1{}}", "spawn^;", "spawn main^;",
            "spawn c main^;", "spawn a b ^c();", "spawn main(^;", "spawn main(1,^);", "spawn main(^,1);",
            "spawn main()^", "become ^(main)();", "become c ^main();", "become main^;", "if ^{}else{}",
            "if 1^;", "if 1{}^", "if 1{}else^;", "if 1{}else{}^;", "while ^{}", "while 1^;", "while 1{}^;",
            "put^;", "put 1^", "get ^1;", "get x^", "get x ^y;"
        };
        for (String text : texts) {
            answers.wrongAt("proc main(){" + text + "}");
        }
        answers.wrongAt("proc main(){while 1{if 1{}else{x=1;}}get x;put x^");
    }

    private static void expressions(Answers answers) {
        answers.about(4, "EXPRESSION: a SUM, perhaps < or == and a SUM");
        String[] texts = {
            "^+1", "1+^", "1+^+2", "1*^*2", "(^)", "(1^;", "1^)", "1<2^<3", "1==2^==3", "1<2^==3", "-^", "1-^",
            "1^!2", "1 ^2", "x ^x", "^end", "1%^/2", "(1<2^<3)", "^~x", "-(^)"
        };
        for (String text : texts) {
            answers.wrongAt("proc main(){put " + text + ";}");
        }
        answers.good("proc main(){put (1<2)<3;put 1--1;put ---1;put 1*-2;put -(1==2)%x/-y;}", 1);
    }

    private static void sameNames(Answers answers) {
        answers.about(4, "the second of two same NAMES of types, of procs, of PARAMETERS of one proc, of LABELS of one + & or case");
        answers.wrongAt("type A=end;type ^A=end;" + MAIN);
        answers.wrongAt("type A=end;type ^A;" + MAIN);
        answers.wrongAt("proc f(){}" + MAIN + "proc ^f(){}");
        answers.wrongAt("proc f(a,b,^a){}" + MAIN);
        answers.wrongAt("proc f(a:A,^a:A){}" + MAIN);
        answers.wrongAt("type A=+{a end;b end;^a end};" + MAIN);
        answers.wrongAt("type A=&{a +{a end;^a end};b end};" + MAIN);
        answers.wrongAt("proc main(){case c{a{}b{}^a{}}}");
        answers.wrongAt("proc main(){case c{a{case c{b{}^b{}}}}}");
        answers.good("type A=+{A end;b &{A end;b end}};proc A(A:A){pick A A;}" + MAIN, 2);
        answers.good("type f=&{f end;a &{f end;a end}};proc f(f:f){case f{f{}a{case f{f{}a{}}}}}proc g(f){}" + MAIN, 3);
    }

    private static void depth(Answers answers) {
        answers.about(4, "the word that opens a 41st { or ( , or - of an ATOM, in one another (to its end)");
        String open = "(".repeat(39);
        String close = ")".repeat(39);
        answers.good("proc main(){put " + open + "1" + close + ";}", 1);
        answers.wrongAt("proc main(){put " + open + "^(1)" + close + ";}");
        answers.wrongAt("proc main(){put " + open + "^-1" + close + ";}");
        answers.good("proc main(){put " + "-".repeat(39) + "1;put " + "-".repeat(39) + "1;}", 1);
        answers.wrongAt("proc main(){put " + "-".repeat(39) + "^-1;}");
        answers.good("proc main(){put " + "-".repeat(38) + "1-(-1)-(1);}", 1);
        answers.good("proc main(){" + "while 1{".repeat(39) + "}".repeat(40), 1);
        answers.wrongAt("proc main(){" + "while 1{".repeat(39) + "while 1^{");
        answers.wrongAt("proc main(){" + "while 1{".repeat(38) + "while (1){put ^(1);");
        answers.good("type A=" + "!(".repeat(40) + "end" + ")end".repeat(40) + ";" + MAIN, 1);
        answers.wrongAt("type A=" + "!(".repeat(40) + "?^(");
        answers.good("type A=" + "+{a ".repeat(40) + "end" + "}".repeat(40) + ";" + MAIN, 1);
        answers.wrongAt("type A=" + "+{a ".repeat(40) + "&^{a end");
        answers.wrongAt("proc f(c:" + "!(".repeat(39) + "?^(");
        answers.good("type A=" + "!int ".repeat(200) + "end;" + MAIN, 1);
        answers.wrongAt("type A=end;proc main(){" + "case c{a{".repeat(19) + "spawn f(^(1));");
    }

    private static void lackingNames(Answers answers) {
        answers.about(4, "at the first NAME (in the text) in a TYPE that is no type's, behind spawn or become that is no proc's");
        answers.wrongAt("type A=^B;" + MAIN);
        answers.wrongAt("type A=~^B;" + MAIN);
        answers.wrongAt("type A=!(^B)C;" + MAIN);
        answers.wrongAt("type A=+{B end;c ^B};" + MAIN);
        answers.wrongAt("proc f(c:^f){}" + MAIN);
        answers.wrongAt("proc main(){spawn ^f();spawn c g();}type A=B;");
        answers.wrongAt("proc main(){spawn f ^g();}proc f(){}");
        answers.wrongAt("proc main(){become ^A();}type A=end;");
        answers.wrongAt("proc f(c:^B){spawn g();}" + MAIN);
        answers.wrongAt("type A=^B;");
        answers.good("proc main(){become f(1);}proc f(c){}", 2);
        answers.good("type A=B;type B=end;" + MAIN, 1);
    }

    private static void loops(Answers answers) {
        answers.about(4, "at the first type's NAME that leads to itself by NAMES and ~ NAMES alone");
        answers.wrongAt("type ^A=A;" + MAIN);
        answers.wrongAt("type ^A=~A;" + MAIN);
        answers.wrongAt("type C=end;type ^A=B;type B=~A;" + MAIN);
        answers.wrongAt("type A=B;type ^B=~B;" + MAIN);
        answers.wrongAt("type A=B;type ^B=C;type C=B;proc f(){}");
        answers.wrongAt("type A=A;proc f(){become ^g();}");
        answers.good("type A=!int A;type B=!(B)B;type C=+{a C};type D=~C;" + MAIN, 1);
    }

    private static void mains(Answers answers) {
        answers.about(4, "at the TAPE's length, if there is no proc main, or it has PARAMETERS");
        answers.wrongAt("proc f(){}^");
        answers.wrongAt("type main=end; ^");
        answers.wrongAt("proc main(x){}^");
        answers.wrongAt("proc Main(){} \n^");
        answers.wrongAt("proc main(c:end){put c;}^");
        answers.good("proc main(){become main();}", 1);
    }
}
