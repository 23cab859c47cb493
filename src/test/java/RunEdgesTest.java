/** Promise 8: the boundary cases of run() and of VISITS, ROWS, MEMORY and ENDS (3 RUNNING). */
public final class RunEdgesTest {
    private static final String FOREVER = "proc main(){while 1{}}";
    private static final String[] ENDINGS = {"", "get x;", "x=1/0;", "while 1{spawn main();}"};

    public static void main(String[] args) {
        Answers answers = new Answers();
        noneWasBegun(answers);
        tooFewOrTooMany(answers);
        refusedBehindTheEnd(answers);
        soManyAsThereAre(answers);
        howItEnded(answers);
        overAtItsEnd(answers);
        firstMiddleAndLastLeave(answers);
        behindTheLastOne(answers);
        fullRows(answers);
        emptyRows(answers);
        eachEndHasItsRow(answers);
        rowsGoRound(answers);
        cellsOfNames(answers);
        cellsOfChannels(answers);
        bothEndsClosed(answers);
        channelsOfTypeEnd(answers);
        memoryOfSpawn(answers);
        memoryOfSpawnWithChannel(answers);
        memoryOfBecome(answers);
        memoryComesBack(answers);
        nothingButEnd(answers);
        nothingIsGivenAway(answers);
        firstWhatIsToldFirst(answers);
        blockedIsNoEnd(answers);
        firstStatementOfTheText(answers);
        argumentsOfTheNextCall(answers);
        givenAwayAmongNumbers(answers);
        otherChannelsStay(answers);
        numbersStayBesideChannels(answers);
        answers.finish("RunEdgesTest");
    }

    private static void noneWasBegun(Answers answers) {
        answers.about(8, "-1: none was begun");
        SessionHouse house = new SessionHouse();
        answers.due("run(0) of a new object", house.run(0), -1);
        answers.due("run(1) of a new object", house.run(1), -1);
        answers.due("program()", Answers.readBy(house, FOREVER), 1);
        answers.due("run(1) ahead of start()", house.run(1), -1);
        house.start();
        answers.due("run(1)", house.run(1), 0);
        Answers.readBy(house, FOREVER);
        answers.due("run(1) behind program()", house.run(1), -1);
        answers.due("run(0) behind program()", house.run(0), -1);
    }

    private static void tooFewOrTooMany(Answers answers) {
        answers.about(8, "-1: n is not 0 .. 20000");
        SessionHouse house = answers.started(FOREVER);
        int[] refused = {-1, 20001, Integer.MIN_VALUE, Integer.MAX_VALUE, -20000, 40000};
        for (int n : refused) {
            answers.due("run(" + n + ")", house.run(n), -1);
            answers.due("count(0): nothing is done", house.count(0), 0);
        }
        answers.due("run(0)", house.run(0), 0);
        answers.due("count(0)", house.count(0), 0);
        answers.due("run(1)", house.run(1), 0);
        answers.due("count(0)", house.count(0), 1);
        answers.due("run(20000)", house.run(20000), 0);
        answers.due("count(0)", house.count(0), 20001);
        answers.due("run(19999)", house.run(19999), 0);
        answers.due("count(0)", house.count(0), 40000);
        answers.due("count(1)", house.count(1), 40000);
    }

    private static void refusedBehindTheEnd(Answers answers) {
        answers.about(8, "-1: n is not 0 .. 20000");
        SessionHouse house = answers.started("proc main(){}");
        answers.due("run(1)", house.run(1), 1);
        answers.due("run(-1) behind the end", house.run(-1), -1);
        answers.due("run(20001) behind the end", house.run(20001), -1);
        answers.due("run(20000) behind the end", house.run(20000), 1);
        answers.due("run(0) behind the end", house.run(0), 1);
    }

    private static void soManyAsThereAre(Answers answers) {
        answers.about(8, "n VISITS, or so many as there are");
        for (int n = 0; n <= 5; n++) {
            SessionHouse house = answers.started("proc main(){x=1;y=2;}");
            answers.due("run(" + n + ")", house.run(n), n >= 3 ? 1 : 0);
            answers.due("VISITS of run(" + n + ")", house.count(0), Math.min(n, 3));
            answers.due("ACTS of run(" + n + ")", house.count(1), Math.min(n, 2));
        }
        SessionHouse house = answers.started("proc main(){while n<9999{n=n+1;}}");
        answers.due("run(19999)", house.run(19999), 0);
        answers.due("run(20000)", house.run(20000), 1);
        answers.due("VISITS: 9999 rounds of two, the last choice, and OVER", house.count(0), 20000);
    }

    private static void howItEnded(Answers answers) {
        answers.about(8, "Answers how the run ended, 0: it has not");
        for (int i = 0; i < ENDINGS.length; i++) {
            SessionHouse house = answers.started("proc main(){put 1;" + ENDINGS[i] + "}");
            answers.due("run(1)", house.run(1), 0);
            answers.due("run on of " + ENDINGS[i], Answers.runOn(house, 4), i + 1);
            int visits = house.count(0);
            int puts = house.count(7);
            house.input(1, 2, 3);
            answers.due("run(1) behind the end", house.run(1), i + 1);
            answers.due("run(20000) behind the end", house.run(20000), i + 1);
            answers.due("run(0) behind the end", house.run(0), i + 1);
            answers.due("count(0)", house.count(0), visits);
            answers.due("count(7)", house.count(7), puts);
        }
    }

    private static void overAtItsEnd(Answers answers) {
        answers.about(8, "if its BLOCK is at its end, it is OVER");
        SessionHouse house = answers.started("proc main(){}");
        answers.counts(house, 0, 0, 1, 1, 4);
        answers.due("run(1)", house.run(1), 1);
        answers.counts(house, 1, 0, 0, 1, 0);
        house = answers.started("proc main(){if 1{}else{put 1;}if 0{put 2;}else{}while 0{put 3;}}");
        answers.due("run(3)", house.run(3), 0);
        answers.counts(house, 3, 3, 1, 1, 4);
        answers.due("run(1)", house.run(1), 1);
        answers.counts(house, 4, 3, 0, 1, 0);
    }

    private static void firstMiddleAndLastLeave(Answers answers) {
        answers.about(8, "VISITS go round it; a process that is over is in it no more");
        leave(answers, "proc a(){put 1;put 2;put 3;}proc b(){put 4;put 5;put 6;}proc main(){spawn a();spawn b();}",
                11, 1, 2, 4, 3, 5, 6);
        leave(answers, "proc a(){put 1;put 2;}proc b(){put 4;put 5;put 6;put 7;}"
                + "proc main(){spawn a();spawn b();put 8;put 9;put 10;}", 14, 1, 2, 4, 8, 5, 9, 6, 10, 7);
        leave(answers, "proc a(){put 1;put 2;put 3;put 11;}proc b(){put 4;}proc main(){spawn a();spawn b();put 8;put 9;}",
                12, 1, 2, 4, 8, 3, 9, 11);
    }

    private static void leave(Answers answers, String text, int visits, int... puts) {
        SessionHouse house = answers.started(text);
        answers.due("run(" + (visits - 1) + ") of " + text, house.run(visits - 1), 0);
        answers.due("count(2)", house.count(2), 1);
        answers.due("run(9)", house.run(9), 1);
        answers.due("count(0)", house.count(0), visits);
        answers.puts(house, puts);
    }

    private static void behindTheLastOne(Answers answers) {
        answers.about(8, "new ones behind the last one, that of main is the first");
        SessionHouse house = answers.started("proc f(n){put n;while 1{}}proc main(){spawn f(1);spawn f(2);spawn f(3);put 0;while 1{}}");
        answers.due("run(1): main", house.run(1), 0);
        answers.counts(house, 1, 1, 2, 2);
        answers.due("run(1): the new one, in the same round", house.run(1), 0);
        answers.puts(house, 1);
        answers.due("run(9)", house.run(9), 0);
        answers.puts(house, 1, 2, 3, 0);
        int[] numbers = {0, 1, 2, 3};
        for (int k = 1; k < numbers.length; k++) {
            answers.due("process(" + k + ", 3, 0)", house.process(k, 3, 0), numbers[k]);
        }
        answers.due("process(0, 0, 0)", house.process(0, 0, 0), 1);
    }

    /** f does not hear for a long time: so many messages go, and the next one waits. */
    private static void fullRows(Answers answers) {
        answers.about(8, "send, pass, pick can be done, if the ROW to the other end is not full");
        String[] types = {"!int A", "!(!int end)A", "+{a A}"};
        String[] acts = {"send c 1;", "spawn d p();pass c d;", "pick c a;"};
        for (int kind = 0; kind < types.length; kind++) {
            for (int rows = 1; rows <= 8; rows++) {
                SessionHouse house = answers.startedWith(rows, 400, "type A=" + types[kind] + ";proc p(d:?int end){recv d x;}"
                        + "proc f(c:~A){while 1{}become f(c);}proc main(){spawn c f();become g(c,0);}"
                        + "proc g(c:A,n){" + acts[kind] + "become g(c,n+1);}");
                answers.due("run(400) of " + acts[kind], house.run(400), 0);
                answers.due("count(6)", house.count(6), rows);
                answers.due("n", house.process(0, 3, 1), rows);
                int done = house.process(0, 2, 0);
                house.run(50);
                answers.due("ACTS of the one that is BLOCKED", house.process(0, 2, 0), done);
                answers.due("count(0): its VISITS count", house.count(0), 450);
            }
        }
    }

    private static void emptyRows(Answers answers) {
        answers.about(8, "recv, take, case, if the ROW to the own one is not empty");
        String[] types = {"!int end", "!(!int end)end", "+{a end}"};
        String[] gives = {"send c 1;", "spawn d p();pass c d;", "pick c a;"};
        String[] gets = {"recv c x;", "take c d;send d 4;", "case c{a{}}"};
        for (int kind = 0; kind < types.length; kind++) {
            SessionHouse house = answers.started("type A=" + types[kind] + ";proc p(d:?int end){recv d x;}proc f(c:~A){"
                    + gets[kind] + "put 7;}proc main(){spawn c f();x=1;x=2;x=3;" + gives[kind] + "}");
            answers.due("run(8)", house.run(8), 0);
            answers.due("ACTS of the one that is BLOCKED", house.process(1, 2, 0), 0);
            answers.due("ACTS of main", house.process(0, 2, 0), 4);
            answers.due("run(40) of " + gets[kind], house.run(40), 1);
            answers.puts(house, 7);
        }
    }

    /** The ROW to the one end is full, that to the other one empty, and the other way about. */
    private static void eachEndHasItsRow(Answers answers) {
        answers.about(8, "A channel has two ends, each with a ROW of messages that go to it");
        SessionHouse house = answers.startedWith(2, 100, "type S=!int!int?int?int end;"
                + "proc f(c:~S){recv c x;recv c y;send c x*10;send c y*10;}"
                + "proc main(){spawn c f();send c 1;send c 2;x=0;x=0;x=0;x=0;recv c x;recv c y;put x;put y;}");
        answers.due("run(100)", house.run(100), 1);
        answers.puts(house, 10, 20);
        house = answers.startedWith(1, 100, "type S=!int?int S;proc f(c:~S){recv c x;send c x+1;become f(c);}"
                + "proc g(c:S,n){send c n;recv c n;put n;become g(c,n);}proc main(){spawn c f();become g(c,0);}");
        answers.due("run(60)", house.run(60), 0);
        for (int i = 0; i < 5; i++) {
            answers.due("output(" + i + ")", house.output(i), i + 1);
        }
    }

    /** Far more messages than a ROW holds go through it, in order, with the ROW full in between. */
    private static void rowsGoRound(Answers answers) {
        answers.about(8, "a ROW of messages that go to it, as many as told at most");
        for (int rows = 1; rows <= 8; rows++) {
            SessionHouse house = answers.startedWith(rows, 100, "type S=!int S;proc f(c:~S,n){x=n%5;while x{x=x-1;}recv c x;put x;"
                    + "become f(c,n+1);}proc g(c:S,n){send c n*n;become g(c,n+1);}proc main(){spawn c f(0);become g(c,0);}");
            house.run(2000);
            answers.due("more than fill it", house.count(7) > 50 ? 1 : 0, 1);
            for (int i = 0; i < 50; i++) {
                answers.due("output(" + i + ") with ROWS of " + rows, house.output(i), i * i);
            }
        }
    }

    private static void cells(Answers answers, String proc, int due) {
        SessionHouse house = answers.started("type A=+{l end;m end};" + proc);
        answers.due("MEMORY of " + proc, house.count(4), due);
    }

    private static void cellsOfNames(Answers answers) {
        answers.about(8, "a process takes 4 cells and 1 for each different NAME of a PARAMETER, or that stands in its proc's BLOCK"
                + " (LABELS and procs' NAMES besides)");
        cells(answers, "proc main(){}", 4);
        cells(answers, "proc main(){x=1;}", 5);
        cells(answers, "proc main(){x=x;x=x+x;put x;get x;}", 5);
        cells(answers, "proc main(){x=X;}", 6);
        cells(answers, "proc main(){put 1;spawn main();}", 4);
        cells(answers, "proc f(a,b,c){}proc main(){spawn f(1,2,3);}", 4);
        cells(answers, "proc f(a,b,c){}proc main(){spawn f(f,2,main);}", 6);
        cells(answers, "proc f(c:~A){case c{l{}m{}}}proc main(){spawn c f();pick c l;}", 5);
        cells(answers, "proc f(c:~A){case c{l{}m{}}}proc main(){l=1;spawn c f();pick c l;}", 6);
        cells(answers, "proc f(c:A){pick c m;}proc main(){spawn d f();case d{l{}m{x=1;}}}", 6);
        cells(answers, "proc f(c:A){pick c m;}proc main(){spawn f f();case f{l{}m{l=1;}}}", 6);
        cells(answers, "proc main(){if a{b=1;}else{c=2;}while d{e=3;}}", 9);
        SessionHouse house = answers.started("proc f(a,b,c){while 1{x=a;}}proc main(){become f(1,2,3);}");
        house.run(1);
        answers.due("MEMORY of f: a, b, c, x", house.count(4), 8);
        house = answers.started("proc f(a,b,c){while 1{}}proc main(){become f(1,2,3);}");
        house.run(1);
        answers.due("MEMORY of f: a, b, c that do not stand in its BLOCK", house.count(4), 7);
    }

    private static void cellsOfChannels(Answers answers) {
        answers.about(8, "a channel 4 and 2 for each message that a ROW may hold");
        for (int rows = 1; rows <= 8; rows++) {
            SessionHouse house = answers.startedWith(rows, 400, "type S=!int end;proc f(c:S){while 1{}send c 1;}"
                    + "proc main(){spawn c f();spawn d f();recv c x;recv d x;}");
            house.run(1);
            answers.due("one channel with ROWS of " + rows, house.count(4), 7 + 5 + 4 + 2 * rows);
            house.run(2);
            answers.due("two channels with ROWS of " + rows, house.count(4), 7 + 2 * (5 + 4 + 2 * rows));
        }
    }

    /** f's end is CLOSED first, then main's; a channel on its way is not CLOSED. */
    private static void bothEndsClosed(Answers answers) {
        answers.about(8, "until both its ends are CLOSED");
        SessionHouse house = answers.started("type S=!int end;proc f(c:S){send c 1;}proc main(){spawn c f();x=1;x=2;recv c x;x=3;}");
        house.run(1);
        answers.counts(house, 1, 1, 2, 2, 6 + 5 + 12, 1, 0);
        house.run(1);
        answers.counts(house, 2, 2, 2, 2, 6 + 5 + 12, 1, 1);
        house.run(2);
        answers.counts(house, 4, 3, 1, 2, 6 + 12, 1, 1);
        house.run(1);
        answers.counts(house, 5, 4, 1, 2, 6 + 12, 1, 1);
        house.run(1);
        answers.counts(house, 6, 5, 1, 2, 6, 0, 0);
        house = answers.started("type S=!int end;type G=!(S)end;proc r(c:~S){recv c x;}proc f(g:~G){y=1;y=2;y=3;take g c;send c 1;}"
                + "proc main(){spawn c r();spawn g f();pass g c;}");
        house.run(12);
        answers.due("channels, one on its way in the ROW of the other one", house.count(5), 2);
        answers.due("main has gone with both", house.count(2), 2);
        answers.due("run(40)", house.run(40), 1);
        answers.due("count(5)", house.count(5), 0);
    }

    private static void channelsOfTypeEnd(Answers answers) {
        answers.about(8, "one whose TYPE is end is none, and takes none");
        SessionHouse house = answers.startedWith(8, 10, "type E=end;proc f(c:~E){put c;}proc main(){spawn c f();put c;}");
        answers.due("run(1): five and five are ten", house.run(1), 0);
        answers.counts(house, 1, 1, 2, 2, 10, 0, 0);
        answers.due("process(0, 1, 0)", house.process(0, 1, 0), 0);
        answers.due("process(1, 1, 0)", house.process(1, 1, 0), 0);
        answers.due("run(9)", house.run(9), 1);
        answers.puts(house, 0, 0);
    }

    private static void memoryOfSpawn(Answers answers) {
        answers.about(8, "4 MEMORY would be more than told (by spawn)");
        SessionHouse house = answers.startedWith(1, 12, "proc f(a,b,c){}proc main(){x=1;spawn f(x,x,x);}");
        answers.due("run(9): five and seven are twelve", house.run(9), 1);
        house.sizes(1, 11);
        house.start();
        answers.due("run(9) with a cell too little", house.run(9), 4);
        answers.counts(house, 2, 1, 1, 1, 5, 0, 0, 0);
        answers.due("process(0, 2, 0)", house.process(0, 2, 0), 1);
    }

    private static void memoryOfSpawnWithChannel(Answers answers) {
        answers.about(8, "4 MEMORY would be more than told (by spawn: the others' cells and the new ones)");
        String text = "type S=!int end;proc f(c:S){send c 1;}proc main(){spawn c f();recv c x;}";
        for (int rows = 1; rows <= 8; rows++) {
            SessionHouse house = answers.startedWith(rows, 6 + 5 + 4 + 2 * rows, text);
            answers.due("run(9) with just enough", house.run(9), 1);
            house.sizes(rows, 6 + 5 + 4 + 2 * rows - 1);
            house.start();
            answers.due("run(9) with a cell too little", house.run(9), 4);
            answers.counts(house, 1, 0, 1, 1, 6, 0, 0, 0);
            answers.due("process(0, 1, 0): no channel is made", house.process(0, 1, 0), 0);
        }
    }

    private static void memoryOfBecome(Answers answers) {
        answers.about(8, "4 MEMORY would be more than told (by become: what goes being gone)");
        String text = "proc w(){while 1{}}proc f(a,b,c,d,e,g){put a;while 1{}}proc main(){x=1;y=2;spawn w();become f(x,y,3,4,5,6);}";
        SessionHouse house = answers.startedWith(1, 14, text);
        answers.due("run(5): four of w and ten of f", house.run(5), 0);
        answers.counts(house, 5, 5, 2, 2, 14);
        answers.due("process(0, 0, 0)", house.process(0, 0, 0), 1);
        house.sizes(1, 13);
        house.start();
        answers.due("run(9) with a cell too little", house.run(9), 4);
        answers.counts(house, 5, 4, 2, 2, 10);
        answers.due("process(0, 0, 0): it stays what it was", house.process(0, 0, 0), 2);
        answers.due("process(0, 3, 1)", house.process(0, 3, 1), 2);
        house = answers.startedWith(1, 10, "proc f(){while 1{}}proc main(){a=b+c+d+e+g;become f();}");
        answers.due("run(9): fewer cells than ahead of it", house.run(9), 0);
        answers.due("count(4)", house.count(4), 4);
    }

    private static void memoryComesBack(Answers answers) {
        answers.about(8, "MEMORY: .. what goes being gone");
        SessionHouse house = answers.startedWith(1, 18, "type S=!int end;proc f(c:S,n){send c n;}"
                + "proc main(){while n<50{spawn c f(n);recv c x;put x;n=n+1;}}");
        answers.due("run(20000) with a cell too little", house.run(20000), 4);
        house.sizes(1, 19);
        house.start();
        answers.due("run(20000) with 7, 6 and 6 cells", house.run(20000), 1);
        answers.due("count(7)", house.count(7), 50);
        answers.due("count(3)", house.count(3), 51);
        answers.due("count(4)", house.count(4), 0);
    }

    /** What an ACT with 2, 3 or 4 would have changed stays as it was. */
    private static void nothingButEnd(Answers answers) {
        answers.about(8, "An ACT with 2, 3, 4 does nothing but end the run (a VISIT it is)");
        String[] acts = {"get x;", "x=1/0;", "put 1/0;", "send c 1/0;", "if 1/0{}else{}", "while 1/0{}", "spawn f(1/0);",
            "spawn big(1,2,3);", "send c 1%0;"};
        int[] ends = {2, 3, 3, 3, 3, 3, 3, 4, 3};
        for (int i = 0; i < acts.length; i++) {
            boolean sends = acts[i].startsWith("send");
            SessionHouse house = answers.startedWith(4, 32, "type S=!int end;proc f(n){}proc big(a,b,c){y=z;}"
                    + "proc r(c:~S){while 1{}recv c y;}proc main(){x=5;spawn c r();" + acts[i] + (sends ? "" : "send c 1;") + "}");
            answers.due("run(3)", house.run(3), 0);
            int memory = house.count(4);
            answers.due("run(9) of " + acts[i], house.run(9), ends[i]);
            answers.counts(house, 4, 3, 2, 2, memory, 1, 0, 0);
            answers.due("process(0, 2, 0)", house.process(0, 2, 0), 2);
            answers.due("process(0, 3, 0): x", house.process(0, 3, 0), 5);
            answers.due("process(0, 1, 0): c", house.process(0, 1, 0), 1);
        }
    }

    private static void nothingIsGivenAway(Answers answers) {
        answers.about(8, "An ACT with 2, 3, 4 does nothing but end the run");
        String[] acts = {"spawn g(c,1/0);", "spawn d g2(c);", "become g(c,1/0);", "become h(c,1,2,3,4,5,6,7,8,9);"};
        int[] ends = {3, 4, 3, 4};
        for (int i = 0; i < acts.length; i++) {
            SessionHouse house = answers.startedWith(1, 21, "type S=!int end;proc g(c:S,n){send c n;}proc g2(d:S,c:S){send c 1;send d 1;}"
                    + "proc h(c:S,a,b,d,e,f,g,i,j,k){send c 1;}proc r(c:~S){while 1{}recv c x;}"
                    + "proc main(){spawn c r();" + acts[i] + (i == 1 ? "recv d x;}" : "}"));
            answers.due("run(2)", house.run(2), 0);
            answers.due("run(9) of " + acts[i], house.run(9), ends[i]);
            answers.due("process(0, 1, 0): c alone", house.process(0, 1, 0), 1);
            answers.due("process(0, 0, 0)", house.process(0, 0, 0), 4);
            answers.due("count(2)", house.count(2), 2);
            answers.due("count(5)", house.count(5), 1);
        }
    }

    private static void firstWhatIsToldFirst(Answers answers) {
        answers.about(8, "LEFT to right, first what is told first");
        String[] acts = {"spawn f(1,2,3/0);", "spawn f(1%0,2,3);", "become f(1,2/0,3);"};
        for (String act : acts) {
            SessionHouse house = answers.startedWith(1, 10, "proc f(a,b,c){x=y;z=u;}proc main(){" + act + "}");
            answers.due("run(9) of " + act, house.run(9), 3);
        }
        SessionHouse house = answers.startedWith(1, 10, "proc f(a,b,c){x=y;z=u;}proc main(){spawn f(1,2,3);}");
        answers.due("run(9)", house.run(9), 4);
    }

    private static void blockedIsNoEnd(Answers answers) {
        answers.about(8, "A VISIT does the process' next ACT, if it can be done; else nothing (it is BLOCKED)");
        SessionHouse house = answers.startedWith(1, 100, "type S=!int!int end;proc f(c:~S){while n<9{n=n+1;}recv c x;recv c x;}"
                + "proc main(){spawn c f();send c 5;send c 1/y;}");
        answers.due("run(30): the ROW is full, so nothing is divided", house.run(30), 0);
        answers.due("process(0, 2, 0)", house.process(0, 2, 0), 2);
        answers.due("run(30): f takes the message", house.run(30), 3);
        answers.due("count(6)", house.count(6), 0);
    }

    /** Behind a BLOCK of the very first STATEMENT the process goes on with the next one. */
    private static void firstStatementOfTheText(Answers answers) {
        answers.about(8, "if and while: the EXPRESSION and the choice; case: a label is taken, and the choice");
        SessionHouse house = answers.started("proc main(){if 1{put 1;}else{put 2;}put 3;}");
        answers.due("run(9)", house.run(9), 1);
        answers.puts(house, 1, 3);
        house = answers.started("proc main(){if x{}else{if 1{put 4;}else{}}put 5;}");
        answers.due("run(9)", house.run(9), 1);
        answers.puts(house, 4, 5);
        house = answers.started("proc main(){while x<2{x=x+1;put x;}put 5;}");
        answers.due("run(20)", house.run(20), 1);
        answers.puts(house, 1, 2, 5);
        house = answers.started("proc f(c:&{a end;b end}){case c{a{put 1;}b{put 2;}}put 3;}proc main(){spawn c f();pick c b;}");
        answers.due("run(20)", house.run(20), 1);
        answers.puts(house, 2, 3);
    }

    private static void argumentsOfTheNextCall(Answers answers) {
        answers.about(8, "spawn: a process of the proc, with what is told");
        SessionHouse house = answers.started("proc f(n){put n;}proc g(a,b){}proc main(){spawn f(1);spawn f(2);spawn f(1/0);}");
        answers.due("run(1)", house.run(1), 0);
        answers.due("run(9)", house.run(9), 3);
        answers.due("count(3)", house.count(3), 3);
        answers.puts(house, 1, 2);
    }

    private static void givenAwayAmongNumbers(Answers answers) {
        answers.about(8, "spawn: a process of the proc, with what is told");
        SessionHouse house = answers.started("type S=!int end;proc f(c:S,n,d:S){while 1{}send c n;send d n;}"
                + "proc z(a,b,c,d,e,g,h,i,j,k,l,m,n,o,p,q,r,s,t,u){}proc h(c:~S,n){while 1{}recv c x;}"
                + "proc main(){spawn c h(1);spawn d h(2);spawn f(c,3,d);while 1{}}");
        house.run(30);
        int[] channels = {0, 1, 1, 2};
        for (int k = 0; k < channels.length; k++) {
            answers.due("process(" + k + ", 1, 0)", house.process(k, 1, 0), channels[k]);
        }
        answers.due("process(3, 3, 1)", house.process(3, 3, 1), 3);
        answers.due("count(5)", house.count(5), 2);
    }

    /** A channel that is made where another one has gone leaves the messages of all others alone. */
    private static void otherChannelsStay(Answers answers) {
        answers.about(8, "A channel has two ends, each with a ROW of messages that go to it");
        SessionHouse house = answers.started("type S=!int end;type T=!int!int?int end;proc s(c:S){send c 1;}"
                + "proc t(c:~T,n){while n{n=n-1;}recv c x;recv c y;send c x*10+y;}"
                + "proc main(){spawn a t(30);spawn b s();spawn c t(30);send a 1;send a 2;send c 3;send c 4;recv b x;"
                + "spawn b s();spawn d t(30);send d 5;send d 6;recv b x;spawn b s();recv b x;"
                + "recv a x;put x;recv c x;put x;recv d x;put x;}");
        answers.due("run(2000)", house.run(2000), 1);
        answers.puts(house, 12, 34, 56);
    }

    /** A NAME's number is the same behind its channel's time, however that begins and ends. */
    private static void numbersStayBesideChannels(Answers answers) {
        answers.about(8, "Each process has numbers by NAMES, 0 at first, channels by NAMES");
        String types = "type S=!int end;type G=!(S)end;type P=+{a end};proc f(c:~S){recv c x;}proc k(c:S){send c 1;}"
                + "proc give(c:G){spawn d f();pass c d;}proc gain(c:~G){take c d;send d 1;}proc p(c:~P){case c{a{put c;}}}";
        puts(answers, types + "proc main(){c=8;d=7;spawn c give();take c d;put c;send d 5;put d;}", 8, 7);
        puts(answers, types + "proc main(){c=8;d=7;spawn d f();spawn c gain();pass c d;put c;put d;}", 8, 7);
        puts(answers, types + "proc main(){d=7;spawn d f();spawn k(d);put d;}", 7);
        puts(answers, types + "proc main(){d=7;spawn d k();recv d d2;put d;put d2;}", 7, 1);
        puts(answers, types + "proc main(){c=6;spawn c p();pick c a;put c;}", 6, 0);
        puts(answers, types + "proc q(c:P){pick c a;}proc main(){c=6;spawn c q();case c{a{put c;}}put c+1;}", 6, 7);
        puts(answers, "type E=end;proc f(c:E){put c;c=2;put c;}proc main(){c=5;spawn c f();c=c+1;put c;}", 0, 6, 2);
    }

    private static void puts(Answers answers, String text, int... due) {
        SessionHouse house = answers.started(text);
        answers.due("run(100) of " + text, house.run(100), 1);
        answers.puts(house, due);
    }
}
