/** Promise 4: the boundary cases of what makes a STATEMENT or } BAD (2 TYPES). */
public final class BadEdgesTest {
    private static final String TYPES = "type E=end;type N=E;type S=!int end;type R=?int end;type L=+{on !int L;off end};"
            + "type G=!(S)end;type M=&{a end;b end};";
    private static final String PROCS = "proc n0(){}proc n1(x){}proc n2(x,y){}proc s1(c:S){send c 1;}"
            + "proc s2(c:S,d:S){send c 1;send d 2;}proc sn(c:S,x){send c x;}proc e1(c:E){}proc en(c:~N,x){}"
            + "proc g1(c:G,d:S){pass c d;}proc main(){}";
    private static final int COUNT = 11;

    public static void main(String[] args) {
        Answers answers = new Answers();
        closedByType(answers);
        closedByAct(answers);
        wrongBeginnings(answers);
        anotherOne(answers);
        justThoseLabels(answers);
        asManyArguments(answers);
        nameAlone(answers);
        notTwice(answers);
        behindThat(answers);
        dualToTheFirst(answers);
        equalInArguments(answers);
        noChannelsLeft(answers);
        lastOfItsBlock(answers);
        allOfThemGoAway(answers);
        joinsOfWhatStays(answers);
        asAheadOfIt(answers);
        itsEnd(answers);
        outerRulesAhead(answers);
        outerRulesBehind(answers);
        answers.finish("BadEdgesTest");
    }

    private static void bad(Answers answers, String parameters, String block) {
        answers.badAt(TYPES + "proc f(" + parameters + "){" + block + "}" + PROCS);
    }

    private static void good(Answers answers, String parameters, String block) {
        answers.good(TYPES + "proc f(" + parameters + "){" + block + "}" + PROCS, COUNT);
    }

    private static void closedByType(Answers answers) {
        answers.about(4, "A channel whose TYPE is end is CLOSED: it is none any more");
        String[] ends = {"end", "E", "~E", "N", "~N"};
        for (String end : ends) {
            good(answers, "c:" + end, "");
            good(answers, "c:" + end, "c=1;put c;get c;");
            good(answers, "c:" + end, "spawn c s1();recv c x;");
            good(answers, "c:" + end, "become n0();");
            bad(answers, "c:" + end, "^send c 1;");
            bad(answers, "c:" + end, "^recv c x;");
            bad(answers, "c:" + end, "^spawn e1(c);");
            bad(answers, "c:" + end + ",d:!(end)end", "^pass d c;");
        }
        good(answers, "", "spawn c e1();spawn c e1();spawn c en(1);c=c+1;");
        bad(answers, "", "spawn c e1();^spawn e1(c);");
    }

    private static void closedByAct(Answers answers) {
        answers.about(4, "A channel whose TYPE is end is CLOSED");
        good(answers, "c:!int N", "send c 1;c=1;");
        good(answers, "c:?int ~E", "recv c x;put c;");
        good(answers, "c:!(S)N,d:S", "pass c d;c=1;d=2;");
        good(answers, "c:?(E)E", "take c d;c=1;d=2;");
        good(answers, "c:?(S)E", "take c d;c=1;send d c;");
        good(answers, "c:+{a N}", "pick c a;put c;");
        good(answers, "c:&{a N;b E;d end}", "case c{a{put c;}b{get c;}d{c=1;}}put c;");
        bad(answers, "c:!int N", "send c 1;^send c 1;");
        bad(answers, "c:?(E)S", "take c d;^send d 1;");
        bad(answers, "c:M", "case c{a{}b{}}^case c{a{}b{}}");
    }

    /** Each STATEMENT with a channel of each other beginning. */
    private static void wrongBeginnings(Answers answers) {
        answers.about(4, "A STATEMENT is BAD, if it is not so");
        String[] beginnings = {"!int end", "?int end", "!(S)end", "?(S)end", "+{a end}", "&{a end}"};
        String[] acts = {"send c 1;", "recv c x;", "pass c d;", "take c x;send x 1;", "pick c a;", "case c{a{}}"};
        for (int i = 0; i < beginnings.length; i++) {
            for (int j = 0; j < acts.length; j++) {
                String parameters = "c:" + beginnings[i] + ",d:S";
                if (i == j) {
                    good(answers, parameters, acts[j] + (j == 2 ? "" : "send d 1;"));
                } else {
                    bad(answers, parameters, "^" + acts[j]);
                }
            }
            bad(answers, "d:S", "^" + acts[i]);
            bad(answers, "c,d:S", "^" + acts[i]);
        }
    }

    private static void anotherOne(Answers answers) {
        answers.about(4, "pass c d: d is another one, EQUAL to S; d is none any more. take c d: d is no channel");
        answers.badAt("type A=!(A)A;proc f(c:A){^pass c c;}proc main(){}");
        answers.good("type A=!(A)A;proc f(c:A,d:A){pass c d;become g(c);}proc g(c:A){become g(c);}proc main(){}", 3);
        answers.badAt("type A=!(A)A;proc f(c:A,d:A){pass c d;^pass c d;}proc main(){}");
        answers.badAt("type A=?(A)A;proc f(c:A){^take c c;}proc main(){}");
        answers.badAt("type A=?(A)A;proc f(c:A,d:A){^take c d;}proc main(){}");
        answers.badAt("type A=?(A)end;proc f(c:A){^take c c;}proc main(){}");
        bad(answers, "c:R", "^recv c c;");
        bad(answers, "c:?int S", "^recv c c;");
    }

    private static void justThoseLabels(Answers answers) {
        answers.about(4, "case: the LABELS are just those of it");
        good(answers, "c:&{a end;b end;d end}", "case c{d{}a{}b{}}");
        bad(answers, "c:&{a end;b end;d end}", "^case c{a{}b{}}");
        bad(answers, "c:&{a end;b end;d end}", "^case c{a{}b{}d{}e{}}");
        bad(answers, "c:&{a end;b end;d end}", "^case c{a{}b{}e{}}");
        bad(answers, "c:&{a end}", "^case c{b{}}");
        bad(answers, "c:+{a end;b end}", "^pick c d;");
        bad(answers, "c:+{a end;b end}", "^pick c c;");
        good(answers, "c:+{c end}", "pick c c;");
    }

    private static void asManyArguments(Answers answers) {
        answers.about(4, "as many ARGUMENTS as the proc has PARAMETERS (spawn c NAME: one less)");
        String[] lists = {"", "1", "1,2", "1,2,3"};
        for (int many = 0; many < lists.length; many++) {
            for (int wanted = 0; wanted <= 2; wanted++) {
                String call = " n" + wanted + "(" + lists[many] + ");";
                if (many == wanted) {
                    good(answers, "", "spawn" + call);
                    good(answers, "", "become" + call);
                } else {
                    bad(answers, "", "^spawn" + call);
                    bad(answers, "", "^become" + call);
                }
            }
            bad(answers, "", "^spawn c n0(" + lists[many] + ");");
            bad(answers, "", "^spawn c n1(" + lists[many] + ");");
        }
        good(answers, "", "spawn c s1();recv c x;");
        bad(answers, "", "^spawn c s1(1);");
        good(answers, "", "spawn c sn(1);recv c x;");
        bad(answers, "", "^spawn c sn();");
        bad(answers, "", "^spawn c sn(1,2);");
    }

    private static void nameAlone(Answers answers) {
        answers.about(4, "an ARGUMENT for a channel is a NAME alone; for a number it is an EXPRESSION");
        String[] others = {"(c)", "-c", "c+0", "c==c", "1", "x", "f"};
        for (String other : others) {
            bad(answers, "c:S", "^spawn s1(" + other + ");");
            bad(answers, "c:S", "^become s1(" + other + ");");
        }
        good(answers, "c:S", "become s1(c);");
        good(answers, "c", "spawn n2(c,(c)+-c);");
        String[] withChannel = {"c", "(c)", "-c", "1+2*c", "1<c", "c==1"};
        for (String argument : withChannel) {
            bad(answers, "c:S", "^spawn n1(" + argument + ");send c 1;");
            bad(answers, "c:S", "^spawn n2(1," + argument + ");send c 1;");
        }
    }

    private static void notTwice(Answers answers) {
        answers.about(4, "of a channel .. which is none of this proc's any more (so not twice)");
        bad(answers, "c:S", "^spawn s2(c,c);");
        bad(answers, "c:S,d:S", "^become s2(c,c);");
        bad(answers, "c:S", "spawn s1(c);^send c 1;");
        bad(answers, "c:S", "spawn s1(c);^become s1(c);");
        good(answers, "c:S,d:S", "spawn s2(d,c);c=1;d=2;put c+d;");
        good(answers, "c:S", "spawn s1(c);spawn c s1();recv c x;");
    }

    private static void behindThat(Answers answers) {
        answers.about(4, "spawn c NAME: c is no channel (behind that)");
        bad(answers, "c:S", "^spawn c s1();");
        bad(answers, "c:S", "^spawn c s2(d);");
        good(answers, "c:S", "spawn c s2(c);recv c x;");
        bad(answers, "c:S,d:S", "^spawn c s2(d);");
        good(answers, "c:S,d:S", "spawn c s2(c);spawn c2 s2(d);recv c x;recv c2 x;");
        bad(answers, "", "spawn c s1();^spawn c s1();");
        bad(answers, "c:S", "^spawn c e1();");
    }

    private static void dualToTheFirst(Answers answers) {
        answers.about(4, "DUAL to the first PARAMETER's TYPE: the other way about in all that follows (but not in ( ) )");
        String pair = "proc p(c:%s){become p(c);}proc f(){spawn c p();%s}proc main(){}";
        answers.good(String.format(pair, "!int ?int end", "recv c x;send c 1;"), 3);
        answers.badAt(String.format(pair, "!int ?int end", "^send c 1;"));
        answers.badAt(String.format(pair, "!int ?int end", "recv c x;^recv c x;"));
        answers.good(String.format(pair, "?(!int end)end", "spawn d q();pass c d;") + "proc q(d:?int end){recv d x;}", 4);
        answers.badAt(String.format(pair, "?(!int end)end", "spawn d q();^pass c d;") + "proc q(d:!int end){send d 1;}");
        answers.good(String.format(pair, "!(!int end)end", "take c d;send d 1;"), 3);
        answers.badAt(String.format(pair, "!(!int end)end", "take c d;^recv d x;"));
        answers.good(String.format(pair, "+{a !int end;b end}", "case c{b{}a{recv c x;}}"), 3);
        answers.good(String.format(pair, "&{a !int end;b end}", "pick c a;recv c x;"), 3);
        answers.good("type A=!int B;type B=?int A;" + String.format(pair, "~A", "send c 1;recv c x;become k(c);")
                + "proc k(c:A){become k(c);}", 4);
        answers.badAt("type A=!int B;type B=?int A;" + String.format(pair, "~A", "send c 1;^become k(c);")
                + "proc k(c:A){become k(c);}");
    }

    private static void equalInArguments(Answers answers) {
        answers.about(4, "EQUAL: the same LABELS (in any order), however far one goes on");
        String two = "type A=+{a !int A;b end};type B=%s;proc p(c:A){become p(c);}proc f(c:B){^become p(c);}proc main(){}";
        answers.badAt(String.format(two, "+{a !int B}"));
        answers.badAt(String.format(two, "+{a !int B;b end;c end}"));
        answers.badAt(String.format(two, "+{a !int B;c end}"));
        answers.badAt(String.format(two, "&{a !int B;b end}"));
        answers.badAt(String.format(two, "+{b end;a !int +{b !int end;a !int B}}"));
        answers.badAt(String.format(two, "+{b end;a !int +{b end;a !int +{b end;a ?int B}}}"));
        String equal = two.replace("^", "");
        answers.good(String.format(equal, "+{b end;a !int B}"), 3);
        answers.good(String.format(equal, "+{b end;a !int +{b end;a !int A}}"), 3);
        answers.good(String.format(equal, "+{b end;a !int +{a !int +{a !int B;b end};b end}}"), 3);
    }

    private static void noChannelsLeft(Answers answers) {
        answers.about(4, "become: no channels are left behind it");
        bad(answers, "c:S", "^become n0();");
        bad(answers, "c:S,d:S", "^become s1(d);");
        bad(answers, "c:S", "if 1{^become n1(1);}else{send c 1;}");
        good(answers, "c:S", "send c 1;become n0();");
        good(answers, "c:S,d:S", "become s2(c,d);");
        bad(answers, "", "spawn c s1();^become n0();");
        good(answers, "", "spawn c e1();become n0();");
    }

    private static void lastOfItsBlock(Answers answers) {
        answers.about(4, "become: it is the last STATEMENT of its BLOCK; if both go away .. the last, too; case likewise");
        bad(answers, "", "^become n0();x=1;");
        bad(answers, "", "^become n0();become n0();");
        bad(answers, "", "while 1{^become n0();x=1;}");
        bad(answers, "", "^if 1{become n0();}else{become n0();}x=1;");
        bad(answers, "", "^if 1{become n0();}else{if 1{become n0();}else{become n0();}}x=1;");
        bad(answers, "", "if 1{become n0();}else{^if 1{become n0();}else{become n0();}x=1;}");
        bad(answers, "c:M", "^case c{a{become n0();}b{become n0();}}x=1;");
        good(answers, "c:M", "x=1;case c{a{become n0();}b{become n0();}}");
        good(answers, "", "while 1{become n0();}while 1{if 1{become n0();}else{become n0();}}x=1;");
    }

    private static void allOfThemGoAway(Answers answers) {
        answers.about(4, "if both go away, the if does; case likewise with all its BLOCKS; a proc whose BLOCK does not go away");
        good(answers, "c:S", "if 1{become s1(c);}else{if 1{become s1(c);}else{become s1(c);}}");
        good(answers, "c:&{a S;b S;d S}", "case c{a{become s1(c);}b{become s1(c);}d{become s1(c);}}");
        bad(answers, "c:&{a S;b S;d S}", "case c{a{become s1(c);}b{}d{become s1(c);}}^");
        good(answers, "c:&{a S;b S;d S}", "case c{a{become s1(c);}b{}d{become s1(c);}}send c 1;");
        bad(answers, "c:S", "if 1{become s1(c);}else{}^");
        bad(answers, "c:S", "while 1{become s1(c);}^");
    }

    private static void joinsOfWhatStays(Answers answers) {
        answers.about(4, "those that do not go away end with the same channels, EQUAL by each NAME");
        bad(answers, "c:S,d:S", "^if 1{send c 1;}else{send d 1;}");
        bad(answers, "c:S,d:R", "^if 1{send c 1;spawn c s1();}else{}send c 1;");
        good(answers, "c:S,d:S", "if 1{send c 1;send d 1;}else{send d 2;send c 2;}");
        bad(answers, "c:L", "^if 1{pick c on;}else{}pick c off;");
        good(answers, "c:L", "if 1{pick c on;send c 1;}else{}pick c off;");
        bad(answers, "c:&{a S;b S;d R}", "^case c{a{}b{}d{}}send c 1;");
        good(answers, "c:&{a S;b S;d R}", "case c{a{}b{}d{recv c x;become n0();}}send c 1;");
    }

    private static void asAheadOfIt(Answers answers) {
        answers.about(4, "while: .. behind it they are as ahead of it");
        bad(answers, "c:L", "^while 1{pick c on;}");
        good(answers, "c:L", "while 1{pick c on;send c 1;pick c on;send c 2;}pick c off;");
        bad(answers, "c:S", "^while 0{send c 1;}");
        bad(answers, "", "^while 0{spawn c s1();}");
        good(answers, "c:S", "while 1{become s1(c);}send c 1;");
        bad(answers, "c:S", "while 1{send c 1;^become s1(c);}");
        good(answers, "c:S", "while 1{while 1{if 1{become s1(c);}else{}}}send c 1;");
        good(answers, "c:S", "while 1{send c 1;spawn c2 s1();recv c2 x;become n0();}send c 1;");
    }

    private static void itsEnd(Answers answers) {
        answers.about(4, "A proc whose BLOCK does not go away has no channels at its end; else its end (its }) is BAD");
        bad(answers, "c:S", "^");
        bad(answers, "c:S", " \n ^");
        bad(answers, "c:!int S", "send c 1;^");
        bad(answers, "", "spawn c s1();^");
        bad(answers, "c:S", "if 1{}else{}^");
        bad(answers, "c:?(S)end", "take c d;^");
        bad(answers, "c:S,d:S", "send c 1; ^");
        good(answers, "c:S", "send c 1;");
    }

    private static void outerRulesAhead(Answers answers) {
        answers.about(4, "A STATEMENT that holds others is looked at (its own rules that can be told ahead) ahead of them");
        bad(answers, "c:S", "^if c{send d 1;}else{}");
        bad(answers, "c:S", "^while c==1{send d 1;}");
        bad(answers, "c:M", "^case c{a{send d 1;}}");
        bad(answers, "c:M", "^case c{a{send d 1;}b{}d{}}");
        bad(answers, "c:S", "^case c{a{send d 1;}}");
        bad(answers, "", "^case c{a{send d 1;}}");
    }

    private static void outerRulesBehind(Answers answers) {
        answers.about(4, "what they end with behind them .. of what is told behind inner ones the outer one's");
        bad(answers, "c:S", "if 1{send c 1;}else{^send d 1;}");
        bad(answers, "c:S", "while 1{send c 1;^send d 1;}");
        bad(answers, "c:&{a S;b R}", "case c{a{}b{^send d 1;}}");
        bad(answers, "c:S", "if 1{^if 1{send c 1;}else{}}else{}");
        bad(answers, "c:S", "^if 1{if 1{send c 1;}else{send c 2;}}else{}send d 1;");
        bad(answers, "", "if 1{become n0();}else{^send d 1;}x=1;");
        bad(answers, "c:S,d:S", "while 1{^while 1{send c 1;}send d 1;}");
        answers.badAt("proc main(){^send c 1;}proc f(){send c 1;}");
        answers.badAt("proc g(c:!int end){^}proc f(){send c 1;}proc main(){}");
    }
}
