/** Promise 4: texts that fill the TAPE (at most 3000 bytes) with as much of one kind as it holds. */
public final class FullTapeTest {
    private static final int TAPE = 3000;

    public static void main(String[] args) {
        Answers answers = new Answers();
        lastByte(answers);
        longNames(answers);
        fullOfOneKind(answers);
        chainOfNames(answers);
        manyArguments(answers);
        manyLabels(answers);
        manyNamesInDeepBlocks(answers);
        manyValuesWaiting(answers);
        badInDeepBlocks(answers);
        answers.finish("FullTapeTest");
    }

    private static void lastByte(Answers answers) {
        answers.about(4, "The TAPE has at most 3000 bytes");
        StringBuilder text = new StringBuilder("proc main(){");
        for (int i = 0; text.length() < TAPE - 10; i++) {
            text.append((char) ('a' + i % 26)).append(i % 10).append("=1;");
        }
        text.append(" ".repeat(TAPE - 1 - text.length())).append('}');
        answers.due("program() of 3000 bytes", Answers.read(text.toString()), 1);
        text.setCharAt(TAPE - 1, ' ');
        answers.due("program() of 3000 bytes without }", Answers.read(text.toString()), -1 - TAPE);
    }

    /** NAMES of 970 letters that differ in the last one, and one that is the beginning of the other. */
    private static void longNames(Answers answers) {
        answers.about(4, "a letter, and all letters and digits behind it");
        String name = "aB9".repeat(323);
        SessionHouse house = answers.started("proc main(){" + name + "a=5;" + name + "b=6;put " + name + "a;}");
        house.run(5);
        answers.due("the one with a", house.output(0), 5);
        answers.due("count(4)", house.count(4), 0);
        house = answers.started("proc main(){" + name + "a=5;" + name + "=6;put " + name + "a;}");
        answers.due("MEMORY of two NAMES", house.count(4), 6);
        house.run(5);
        answers.due("the longer one", house.output(0), 5);
        answers.good("proc main(){" + "x".repeat(TAPE - 12 - 4) + "=1;}", 1);
    }

    /** How many ACTS each piece takes tells that none was lost. */
    private static void fullOfOneKind(Answers answers) {
        answers.about(4, "The TAPE is the program");
        again(answers, 0, 0, "type A=", "!(A)", "end;proc main(){}");
        again(answers, 0, 0, "type A=", "!int ", "A;proc main(){}");
        again(answers, 0, 0, "type A=+{z end", ";@ A", ";y end};proc f(c:A){pick c y;}proc main(){}");
        again(answers, 0, 0, "type A=&{z end", ";@ end", "};proc f(c:+{a A}){pick c a;become g(c);}proc g(c:A){become g(c);}"
                + "proc main(){}");
        again(answers, 0, 0, "type S=end;", "type @=~S;", "proc main(){}");
        again(answers, 0, 0, "", "proc @(){}", "proc main(){}");
        again(answers, 0, 0, "proc f(z", ",@", ",c:!int end){send c z;}proc main(){}");
        again(answers, 0, 1, "proc f(){}proc main(){", "spawn f();", "}");
        again(answers, 0, 2, "proc f(x,y){put x*4-y;}proc main(){", "spawn f(1,3);", "}");
        again(answers, 3, 1, "proc main(){while x<1{x=x+1;}", "y=2;", "}");
        again(answers, 0, 1, "proc main(){", "@=@+1;", "}");
        again(answers, 0, 1, "proc main(){", "if 1{}else{}", "}");
        again(answers, 0, 2, "proc main(){", "if 1{put 1;}else{}", "}");
        again(answers, 0, 1, "proc main(){", "while 0{}", "}");
        again(answers, 1, 0, "proc main(){put 1", "*1", ";}");
        again(answers, 1, 0, "proc main(){put 1", "+@", ";}");
        again(answers, 1, 0, "proc main(){put 1", "-@+1-1", ";}");
    }

    /** Six full TAPES on one object: what the earlier ones took is free again; all that is put is 1. */
    private static void again(Answers answers, int acts, int actsEach, String first, String middle, String last) {
        StringBuilder text = new StringBuilder(first);
        int pieces = 0;
        for (; text.length() + middle.length() + last.length() + 4 <= TAPE; pieces++) {
            text.append(middle.replace("@", Answers.name(pieces)));
        }
        text.append(last);
        int procs = text.toString().split("proc ", -1).length - 1;
        String about = text.substring(0, 30) + " .. of " + pieces + " pieces";
        SessionHouse house = new SessionHouse();
        for (int i = 0; i < 6; i++) {
            answers.due("program() of " + about + ", time " + i, Answers.readBy(house, text.toString()), procs);
        }
        house.sizes(1, 10000);
        answers.due("start() of " + about, house.start(), 0);
        answers.due("run(20000) of " + about, house.run(20000), 1);
        answers.due("count(1) of " + about, house.count(1), acts + actsEach * pieces);
        for (int i = 0; i < Math.min(house.count(7), 500); i++) {
            answers.due("output(" + i + ") of " + about, house.output(i), 1);
        }
        boolean hasType = text.charAt(0) == 't';
        answers.due("types(0, 0, 0) of " + about, house.types(0, 0, 0), hasType ? 1 : -1);
        answers.due("types(0, 0, 1) of " + about, house.types(0, 0, 1), !hasType ? -1 : first.contains("=end;") ? 1 : 0);
    }

    /** Each type is the next one's DUAL; the last one is told in full. */
    private static void chainOfNames(Answers answers) {
        answers.about(12, "NAMES and ~ replaced");
        StringBuilder text = new StringBuilder();
        int last = 0;
        for (; text.length() < TAPE - 60; last++) {
            text.append("type ").append(Answers.name(last)).append("=~").append(Answers.name(last + 1)).append(';');
        }
        text.append("type ").append(Answers.name(last)).append("=!int end;proc main(){}");
        SessionHouse house = answers.loaded(text.toString());
        for (int i = 0; i <= last; i += 7) {
            answers.due("types(" + i + ", " + last + ", 0)", house.types(i, last, 0), (last - i) % 2 == 0 ? 1 : 0);
            answers.due("types(" + i + ", " + last + ", 1)", house.types(i, last, 1), (last - i) % 2);
        }
        answers.due("types(0, " + (last + 1) + ", 0)", house.types(0, last + 1, 0), -1);
        int at = text.lastIndexOf("=!int");
        answers.due("program() of a ring of NAMES", Answers.read(text.substring(0, at) + "=Aa;proc main(){}"), -1 - 5);
    }

    private static void manyArguments(Answers answers) {
        answers.about(8, "spawn: a process of the proc, with what is told");
        StringBuilder parameters = new StringBuilder("a");
        StringBuilder arguments = new StringBuilder("7");
        int many = 1;
        for (; parameters.length() + arguments.length() < TAPE - 80; many++) {
            parameters.append(',').append(Answers.name(many));
            arguments.append(',').append(many % 10);
        }
        SessionHouse house = answers.startedWith(1, 10000, "proc f(" + parameters + "){while 1{}}proc main(){spawn f("
                + arguments + ");}");
        house.run(2);
        for (int j = 0; j < many; j++) {
            answers.due("process(1, 3, " + j + ")", house.process(1, 3, j), j == 0 ? 7 : j % 10);
        }
        answers.due("process(1, 3, " + many + ")", house.process(1, 3, many), 0);
        answers.due("count(4)", house.count(4), 4 + 4 + many);
    }

    private static void manyLabels(Answers answers) {
        answers.about(8, "case: a label is taken, and the choice");
        StringBuilder type = new StringBuilder("type S=+{z end");
        StringBuilder cases = new StringBuilder("z{put -1;}");
        int many = 0;
        for (; type.length() + cases.length() < TAPE - 120; many++) {
            type.append(';').append(Answers.name(many)).append(" end");
            cases.append(Answers.name(many)).append("{put ").append(many).append(";}");
        }
        SessionHouse house = new SessionHouse();
        for (int i = 0; i < many; i += (many - 1) / 2) {
            answers.due("program()", Answers.readBy(house, type + "};proc f(c:~S){case c{" + cases
                    + "}}proc main(){spawn c f();pick c " + Answers.name(i) + ";}"), 2);
            answers.due("start()", house.start(), 0);
            answers.due("run(9)", house.run(9), 1);
            answers.puts(house, i);
        }
        answers.badAt(type + "};proc f(c:~S){^case c{" + cases + "zz{}}}proc main(){}");
    }

    /** Each level keeps what the channels are ahead of it, for all NAMES of the proc. */
    private static void manyNamesInDeepBlocks(Answers answers) {
        answers.about(4, "while: its BLOCK ends with the channels (EQUAL) with which it began");
        StringBuilder head = new StringBuilder("proc f(a");
        for (int i = 0; head.length() < TAPE - 440; i++) {
            head.append(',').append(Answers.name(i));
        }
        head.append(",c:!int end){").append("while 1{".repeat(38));
        String tail = "}".repeat(38) + "send c 1;}proc main(){}";
        answers.good(head + "if 1{}else{}" + tail, 2);
        answers.badAt(head + "^if 1{send c 1;}else{}" + tail);
        answers.badAt(head.substring(0, head.length() - 8) + "^while 1{send c 1;" + tail);
    }

    /** Each level leaves three values waiting; any wrong one makes all outer ones 0. */
    private static void manyValuesWaiting(Answers answers) {
        answers.about(8, "a STATEMENT with its EXPRESSIONS");
        SessionHouse house = answers.started("proc main(){put " + "1==3-2*(".repeat(39) + "1" + ")".repeat(39) + ";}");
        house.run(1);
        answers.due("output(0)", house.output(0), 1);
        house = answers.started("proc main(){put " + "1==3-2*-(".repeat(19) + "-1" + ")".repeat(19) + ";}");
        house.run(1);
        answers.due("output(0): 1 == 3-2*1 once, then 1 == 3-2*-1", house.output(0), 0);
    }

    /** The innermost of forty BLOCKS is checked like the outermost one, and so are all on the way. */
    private static void badInDeepBlocks(Answers answers) {
        answers.about(4, "A STATEMENT that holds others is looked at ahead of them");
        String main = "proc main(){}";
        answers.badAt("proc f(){" + "if 1{".repeat(39) + "^send c 1;" + "}else{}".repeat(39) + "}" + main);
        answers.badAt("proc f(){" + "if 1{}else{".repeat(39) + "^send c 1;" + "}".repeat(39) + "}" + main);
        answers.badAt("proc f(){" + "while 1{".repeat(39) + "^send c 1;" + "}".repeat(39) + "}" + main);
        answers.badAt("type C=&{a C;b C};proc f(c:C){" + "case c{b{become f(c);}a{".repeat(19) + "^send c 1;" + "}}".repeat(19) + "}"
                + main);
        answers.good("type C=&{a C;b C};proc f(c:C){" + "case c{b{become f(c);}a{".repeat(19) + "become f(c);" + "}}".repeat(19) + "}"
                + main, 2);
        answers.badAt("proc f(c:!int end){" + "if 1{".repeat(38) + "^if 1{send c 1;}else{}" + "}else{}".repeat(38) + "send c 1;}" + main);
        answers.good("proc f(c:!int end){" + "if 1{".repeat(39) + "send c 1;" + "}else{send c 2;}".repeat(39) + "}" + main, 2);
    }
}
