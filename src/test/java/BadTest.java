/** Promise 4: which STATEMENT (or }) program() tells to be BAD (2 TYPES). */
public final class BadTest {
    private static final String TYPES = "type S=!int end;type R=?int end;type G=!(S)end;type T=?(S)end;"
            + "type P=+{a end;b !int end};type C=&{a end;b ?int end};type L=+{on !int L;off end};type E=end;";
    private static final String MAIN = "proc main(){}";
    private static final String PROCS = "proc n0(){}proc n1(x){}proc n2(x,y){}proc s1(c:S){send c 1;}"
            + "proc s2(c:S,d:S){send c 1;send d 2;}proc sn(c:S,x){send c x;}proc ns(x,c:S){send c x;}"
            + "proc e1(c:E){}proc ln(c:L,x){become ln(c,x);}" + MAIN;

    public static void main(String[] args) {
        Answers answers = new Answers();
        numbers(answers);
        messages(answers);
        channelsAsMessages(answers);
        choices(answers);
        calls(answers);
        newChannels(answers);
        becoming(answers);
        ifs(answers);
        whiles(answers);
        procEnds(answers);
        order(answers);
        answers.finish("BadTest");
    }

    private static void bad(Answers answers, String parameters, String block) {
        answers.badAt(TYPES + "proc f(" + parameters + "){" + block + "}" + PROCS);
    }

    private static void good(Answers answers, String parameters, String block) {
        answers.good(TYPES + "proc f(" + parameters + "){" + block + "}" + PROCS, 11);
    }

    private static void numbers(Answers answers) {
        answers.about(4, "A NAME in an EXPRESSION, x of get, recv, and = is no channel");
        bad(answers, "c:S", "^c=1;send c 1;");
        bad(answers, "c:S", "^x=c;send c 1;");
        bad(answers, "c:S", "x=1;^x=1+(2*-c);send c 1;");
        bad(answers, "c:S", "^put c;send c 1;");
        bad(answers, "c:S", "^get c;send c 1;");
        bad(answers, "c:S", "^if c{}else{}send c 1;");
        bad(answers, "c:S", "^while 1<c{}send c 1;");
        bad(answers, "c:S", "^send c c;");
        good(answers, "c:S", "send c c1;c=1;put c;get c;if c{}else{}while c{}");
        good(answers, "c:E", "c=1;put c;");
    }

    private static void messages(Answers answers) {
        answers.about(4, "send: c is a channel of TYPE ! int T, which becomes T. recv: of ? int T; x is no channel");
        bad(answers, "", "^send c 1;");
        bad(answers, "c", "^send c 1;");
        bad(answers, "c:R", "^send c 1;");
        bad(answers, "c:G", "^send c 1;");
        bad(answers, "c:P", "^send c 1;");
        bad(answers, "c:S", "send c 1;^send c 1;");
        bad(answers, "c:E", "^send c 1;");
        bad(answers, "c:S", "^recv c x;");
        bad(answers, "c:T", "^recv c x;");
        bad(answers, "c:R", "^recv c c;");
        bad(answers, "c:R,d:R", "^recv c d;recv d c;");
        bad(answers, "c:R,d:S", "^recv c d;send d 1;");
        good(answers, "c:R,d:R", "recv d x;recv c d;x=d;c=2;");
        good(answers, "c:~R,d:~S", "send c x;recv d x;");
        good(answers, "c:!int?int S", "send c 1;recv c x;send c x;");
    }

    private static void channelsAsMessages(Answers answers) {
        answers.about(4, "pass c d: d is another one, EQUAL to S; d is none any more. take c d: d is no channel");
        good(answers, "c:G,d:S", "pass c d;d=1;c=2;");
        good(answers, "c:G,d:~R", "pass c d;");
        good(answers, "c:~T,d:S", "pass c d;");
        bad(answers, "c:G,d:R", "^pass c d;recv d x;");
        bad(answers, "c:G,d", "^pass c d;");
        bad(answers, "c:G", "^pass c d;");
        bad(answers, "c:T,d:S", "^pass c d;");
        bad(answers, "c:S,d:S", "^pass c d;");
        bad(answers, "c:!(L)end,d:L", "pick d on;^pass c d;");
        answers.badAt("type A=!(A)end;proc f(c:A){^pass c c;}" + MAIN);
        bad(answers, "c:!(E)end,d:E", "^pass c d;");
        bad(answers, "c:G,d:S", "pass c d;^send d 1;");
        good(answers, "c:T", "take c d;send d 1;");
        good(answers, "c:~G,d", "take c d;send d 1;");
        good(answers, "c:?(S)G", "take c d;pass c d;");
        good(answers, "c:?(E)end", "take c d;d=1;");
        bad(answers, "c:T,d:S", "^take c d;");
        bad(answers, "c:T", "^take c c;");
        bad(answers, "c:G", "^take c d;");
        bad(answers, "c:R", "^take c d;");
        bad(answers, "c:T", "take c d;^recv d x;");
    }

    private static void choices(Answers answers) {
        answers.about(4, "pick: of + { .. L T .. }. case: of & { .. }; the LABELS are just those of it");
        good(answers, "c:P", "pick c a;");
        good(answers, "c:P", "pick c b;send c 1;");
        bad(answers, "c:P", "^pick c z;");
        bad(answers, "c:C", "^pick c a;");
        bad(answers, "c:S", "^pick c a;");
        bad(answers, "", "^pick c a;");
        good(answers, "c:C", "case c{b{recv c x;}a{}}");
        good(answers, "c:~P", "case c{a{}b{recv c x;}}put c;");
        bad(answers, "c:C", "^case c{a{}}");
        bad(answers, "c:C", "^case c{a{}b{recv c x;}z{}}");
        bad(answers, "c:C", "^case c{a{}z{recv c x;}}");
        bad(answers, "c:P", "^case c{a{}b{}}");
        bad(answers, "c", "^case c{a{}}");
        bad(answers, "c:C", "case c{a{^recv c x;}b{recv c x;}}");
        bad(answers, "c:C", "case c{a{}b{^send c 1;}}");
        bad(answers, "c:C", "^case c{a{}b{}}");
        bad(answers, "c:C,d:S", "^case c{a{send d 1;}b{recv c x;}}send d 1;");
        bad(answers, "c:C", "^case c{a{}b{recv c x;spawn c s1();}}");
        good(answers, "c:&{a S;b !int end}", "case c{a{}b{}}send c 1;");
        good(answers, "c:&{a E;b S}", "case c{a{}b{become s1(c);}}put 1;");
        good(answers, "c:&{a R;b S}", "case c{a{}b{become s1(c);}}recv c x;");
        good(answers, "c:&{b S;a R;d S}", "case c{b{become s1(c);}a{}d{become s1(c);}}recv c x;");
        bad(answers, "c:&{a S;b S}", "^case c{a{become s1(c);}b{become s1(c);}}put 1;");
        good(answers, "c:&{a S;b S}", "case c{a{become s1(c);}b{become s1(c);}}");
    }

    private static void calls(Answers answers) {
        answers.about(4, "spawn, become: as many ARGUMENTS as the proc has PARAMETERS");
        good(answers, "c:S,d:~R", "spawn s2(c,d);c=1;d=2;");
        good(answers, "c:S", "spawn sn(c,1+2);");
        good(answers, "", "spawn n0();spawn n1(x);spawn n2((y),x<y);");
        bad(answers, "", "^spawn n0(1);");
        bad(answers, "", "^spawn n1();");
        bad(answers, "", "^spawn n2(1,2,3);");
        bad(answers, "c:S", "^spawn n1(c);");
        bad(answers, "c:S", "^spawn n1(1+c);");
        bad(answers, "c:S", "^spawn s1((c));");
        bad(answers, "c:S", "^spawn s1(1);");
        bad(answers, "c:S", "^spawn s1(x);");
        bad(answers, "c:S", "^spawn s1(-c);");
        bad(answers, "c:R", "^spawn s1(c);");
        bad(answers, "c:S", "^spawn s2(c,c);");
        bad(answers, "c:S", "spawn s1(c);^spawn s1(c);");
        bad(answers, "c:E", "^spawn e1(c);");
        bad(answers, "c:S", "^spawn ns(c,c);");
        good(answers, "c:S", "spawn sn(c,c);");
    }

    private static void newChannels(Answers answers) {
        answers.about(4, "spawn c NAME: c is no channel (behind that) and becomes one, DUAL to the first PARAMETER's TYPE");
        good(answers, "", "spawn c s1();recv c x;");
        good(answers, "", "spawn c sn(5);recv c x;");
        good(answers, "c", "spawn c s1();recv c x;put c;");
        good(answers, "d:S", "spawn c s2(d);recv c x;");
        good(answers, "c:S", "spawn c s2(c);recv c x;");
        good(answers, "", "spawn c e1();c=1;");
        bad(answers, "", "spawn c s1();^send c 1;");
        bad(answers, "c:S", "^spawn c s1();recv c x;");
        bad(answers, "", "^spawn c s1(1);");
        bad(answers, "", "^spawn c sn();");
        bad(answers, "", "^spawn c n0();");
        bad(answers, "", "^spawn c n1();");
        bad(answers, "", "^spawn c ns(1);");
        bad(answers, "", "spawn c s1();^spawn c s1();");
        bad(answers, "", "^spawn c s2(c);");
    }

    private static void becoming(Answers answers) {
        answers.about(4, "become: no channels are left behind it, and it is the last STATEMENT of its BLOCK");
        good(answers, "c:S", "become s1(c);");
        good(answers, "c:S,d:S", "become s2(d,c);");
        bad(answers, "c:S,d:S", "^become s1(c);");
        bad(answers, "c:S", "^become n0();");
        bad(answers, "", "^become n0();put 1;");
        bad(answers, "", "^become n1();");
        bad(answers, "c:R", "^become s1(c);");
        bad(answers, "", "if 1{^become n0();put 1;}else{}");
        good(answers, "c:L", "pick c on;send c 1;become ln(c,2);");
    }

    private static void ifs(Answers answers) {
        answers.about(4, "if: of the two BLOCKS those that do not go away end with the same channels, EQUAL by each NAME");
        good(answers, "c:S", "if 1{send c 1;}else{send c 2;}");
        bad(answers, "c:S", "^if 1{send c 1;}else{}send c 1;");
        bad(answers, "c:P", "^if 1{pick c a;}else{pick c b;}");
        good(answers, "c:S", "if 1{become s1(c);}else{send c 1;}put 1;");
        good(answers, "c:S", "if 1{send c 1;}else{become s1(c);}put 1;");
        good(answers, "c:S", "if 1{}else{become s1(c);}send c 1;");
        good(answers, "c:S", "if 1{become s1(c);}else{}send c 1;");
        bad(answers, "c:S", "if 1{}else{become s1(c);}^put c;");
        good(answers, "c:S", "if 1{become s1(c);}else{become s1(c);}");
        bad(answers, "c:S", "^if 1{become s1(c);}else{become s1(c);}put 1;");
        bad(answers, "c:S", "if 1{^if 1{become s1(c);}else{become s1(c);}put 1;}else{}");
        good(answers, "c:S", "if 1{if 1{become s1(c);}else{become s1(c);}}else{}send c 1;");
        good(answers, "c:+{a !int L;b L}", "if 1{pick c a;send c 1;}else{pick c b;}become ln(c,1);");
        good(answers, "", "if 1{spawn c s1();}else{spawn c sn(1);}recv c x;");
        bad(answers, "", "^if 1{spawn c s1();}else{spawn d s1();}");
        good(answers, "c:S", "if 1{send c 1;if 1{}else{}}else{send c 2;}");
        good(answers, "c:S,d:S", "if 1{send c 1;if 1{send d 1;}else{send d 2;}}else{send d 1;send c 2;}");
        good(answers, "c:S", "if 1{send c 1;while 1{}}else{send c 2;}");
        good(answers, "c:C,d:C", "case c{a{case d{a{}b{recv d x;}}}b{recv c x;case d{a{}b{recv d x;}}}}");
        bad(answers, "c:S,d:S", "if 1{send c 1;^if 1{send d 1;}else{}}else{send d 1;send c 2;}");
    }

    private static void whiles(Answers answers) {
        answers.about(4, "while: its BLOCK goes away, or ends with the channels (EQUAL) with which it began");
        good(answers, "c:L", "while 1{pick c on;send c 1;}pick c off;");
        good(answers, "c:L", "while 1{pick c on;while 1{}send c 1;}pick c off;");
        good(answers, "c:L", "while 1{pick c on;if 1{}else{}send c 1;}pick c off;");
        bad(answers, "c:L", "^while 1{pick c on;}pick c off;");
        bad(answers, "c:L", "^while 1{pick c off;}");
        bad(answers, "", "^while 1{spawn c s1();}");
        good(answers, "", "while 1{spawn c s1();recv c x;}");
        good(answers, "", "while 1{become n0();}put 1;");
        good(answers, "c:S", "while 1{become s1(c);}send c 1;");
        bad(answers, "c:S", "while 1{become s1(c);}^put c;");
        bad(answers, "c:S", "while 1{^put c;}send c 1;");
    }

    private static void procEnds(Answers answers) {
        answers.about(4, "A proc whose BLOCK does not go away has no channels at its end; else its end (its }) is BAD");
        bad(answers, "c:S", "^");
        bad(answers, "c:S", "put 1;^");
        bad(answers, "", "spawn c s1();^");
        bad(answers, "c:L", "while 1{pick c on;send c 1;}  ^");
        good(answers, "c:E", "");
        answers.badAt("proc f(c:!int end){if 1{}else{}^}" + MAIN);
        answers.badAt("proc f(c:!int end){^if 1{send c 1;}else{}}" + MAIN);
        answers.badAt("proc f(c:!int !int end){^if 1{send c 1;}else{}send c 1;}" + MAIN);
        answers.badAt(MAIN + "proc f(c:!int end){^}");
    }

    private static void order(Answers answers) {
        answers.about(4, "The first BAD one is told");
        bad(answers, "c:S", "if 1{^put c;}else{send c 1;}");
        bad(answers, "c:S", "if 1{send c 1;}else{^put c;}");
        bad(answers, "c:S", "^if c{put c;}else{}");
        bad(answers, "c:C", "^case c{z{put c;}a{}}");
        bad(answers, "c:&{a S;b S;d S}", "case c{a{send c 1;}b{}d{^put c;}}");
        bad(answers, "c:L", "while 1{pick c on;^put c;}");
        answers.badAt("proc g(c:!int end){^put c;}proc f(c:!int end){put c;}" + MAIN);
        answers.badAt("proc f(){^send c 1;}proc g(){send c 1;}" + MAIN);
        answers.wrongAt("proc f(){send c 1;}" + MAIN + "^)");
    }
}
