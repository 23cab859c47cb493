/** Promise 10: count. */
public final class CountTest {
    private static final String TALK = "type S=!int!int?int end;proc f(c:~S,k){recv c x;recv c y;send c x+y;put k;}"
            + "proc main(){spawn c f(9);send c 1;send c 2;recv c z;put z;}";

    public static void main(String[] args) {
        Answers answers = new Answers();
        noSuchWhat(answers);
        aheadOfARun(answers);
        step(answers);
        closedEnds(answers);
        messagesOfAllRows(answers);
        everyWhatStateByState(answers);
        noSuchWhatEver(answers);
        beyondWhatIsKept(answers);
        mainIsMadeToo(answers);
        inputAndTape(answers);
        answers.finish("CountTest");
    }

    private static void noSuchWhat(Answers answers) {
        answers.about(10, "-1: no such what");
        SessionHouse house = answers.started(TALK);
        answers.due("count(-1)", house.count(-1), -1);
        answers.due("count(10)", house.count(10), -1);
        answers.due("count(least)", house.count(Integer.MIN_VALUE), -1);
        answers.due("count(greatest)", house.count(Integer.MAX_VALUE), -1);
        answers.due("count(-1) of a new object", new SessionHouse().count(-1), -1);
    }

    private static void aheadOfARun(Answers answers) {
        answers.about(10, "0 to 7: 0 ahead of a run");
        SessionHouse house = answers.loaded(TALK);
        house.input(1, 2, 3);
        house.feed(1, 2, 3, 4, 5);
        answers.counts(house, 0, 0, 0, 0, 0, 0, 0, 0, 3, 20);
        house.start();
        answers.counts(house, 0, 0, 1, 1, 6, 0, 0, 0, 3, 20);
    }

    /** main takes 6 cells, f 8, the channel 12. */
    private static void step(Answers answers) {
        answers.about(10, "0 VISITS; 1 ACTS; 2 processes in the RING; 3 processes made so far; 4 MEMORY in use");
        SessionHouse house = answers.started(TALK);
        int[][] due = {
            {1, 1, 2, 2, 26, 1, 0, 0},  // main: spawn
            {2, 1, 2, 2, 26, 1, 0, 0},  // f: blocked
            {3, 2, 2, 2, 26, 1, 1, 0},  // main: send
            {4, 3, 2, 2, 26, 1, 0, 0},  // f: recv
            {5, 4, 2, 2, 26, 1, 1, 0},  // main: send
            {6, 5, 2, 2, 26, 1, 0, 0},  // f: recv
            {7, 5, 2, 2, 26, 1, 0, 0},  // main: blocked
            {8, 6, 2, 2, 26, 1, 1, 0},  // f: send, its end is CLOSED
            {9, 7, 2, 2, 14, 0, 0, 0},  // main: recv, the channel is gone
            {10, 8, 2, 2, 14, 0, 0, 1}, // f: put
            {11, 9, 2, 2, 14, 0, 0, 2}, // main: put
            {12, 9, 1, 2, 6, 0, 0, 2},  // f is OVER
            {13, 9, 0, 2, 0, 0, 0, 2},  // main is OVER
        };
        for (int[] row : due) {
            answers.due("run(1)", house.run(1), row[0] == 13 ? 1 : 0);
            answers.counts(house, row);
        }
    }

    /** An end may be CLOSED long ahead of the other one; a LABEL may close it. */
    private static void closedEnds(Answers answers) {
        answers.about(10, "5 channels whose ends are not both CLOSED");
        SessionHouse house = answers.started("type S=+{a end;b !int end};proc f(c:~S){put 1;case c{a{put 2;}b{recv c x;}}}"
                + "proc main(){spawn c f();pick c a;c=4;}");
        house.run(3);
        answers.due("count(5): one end is CLOSED", house.count(5), 1);
        answers.due("count(6): the LABEL", house.count(6), 1);
        answers.due("process(0, 1, 0)", house.process(0, 1, 0), 0);
        answers.due("process(1, 1, 0)", house.process(1, 1, 0), 1);
        answers.due("count(4)", house.count(4), 5 + 6 + 12);
        house.run(1);
        answers.due("count(5)", house.count(5), 0);
        answers.due("count(6)", house.count(6), 0);
        answers.due("count(4)", house.count(4), 11);
        answers.due("run(50)", house.run(50), 1);
    }

    private static void messagesOfAllRows(Answers answers) {
        answers.about(10, "6 messages in all ROWS");
        SessionHouse house = answers.loaded("type S=!int!int?int?int end;proc f(c:S){send c 1;send c 2;recv c x;recv c x;}"
                + "proc g(c:~S,n){while n{n=n-1;}recv c x;recv c x;send c 1;send c 1;}"
                + "proc main(){spawn c f();spawn d f();spawn g(c,5);spawn g(d,5);}");
        house.sizes(2, 200);
        house.start();
        house.run(20);
        answers.due("count(6)", house.count(6), 4);
        answers.due("count(5)", house.count(5), 2);
        answers.due("count(2)", house.count(2), 4);
        answers.due("count(3)", house.count(3), 5);
        answers.due("run(200)", house.run(200), 1);
        answers.due("count(6)", house.count(6), 0);
        answers.due("count(5)", house.count(5), 0);
    }

    /** A new object, a WRONG and a BAD text, a program, and a program behind a run: 0 to 7 are 0. */
    private static void everyWhatStateByState(Answers answers) {
        answers.about(10, "0 to 7: 0 ahead of a run");
        SessionHouse house = new SessionHouse();
        String[] texts = {"", "proc", "proc main(){send c 1;}", TALK};
        for (String text : texts) {
            Answers.readBy(house, text);
            answers.counts(house, 0, 0, 0, 0, 0, 0, 0, 0, 0, 0);
        }
        house.start();
        house.run(5);
        answers.counts(house, 5, 4, 2, 2, 26, 1, 1, 0, 0, 0);
        Answers.readBy(house, TALK);
        answers.counts(house, 0, 0, 0, 0, 0, 0, 0, 0, 0, 0);
    }

    private static void noSuchWhatEver(Answers answers) {
        answers.about(10, "-1: no such what");
        int[] whats = {-1, 10, 11, -10, Integer.MIN_VALUE, Integer.MAX_VALUE};
        SessionHouse house = new SessionHouse();
        for (int what : whats) {
            answers.due("count(" + what + ") of a new object", house.count(what), -1);
        }
        Answers.readBy(house, TALK);
        house.start();
        house.run(100);
        for (int what : whats) {
            answers.due("count(" + what + ") behind a run", house.count(what), -1);
        }
    }

    private static void beyondWhatIsKept(Answers answers) {
        answers.about(10, "7 numbers that were put");
        SessionHouse house = answers.started("proc main(){while 1{put 1;}}");
        house.run(1000);
        answers.due("count(7)", house.count(7), 500);
        house.run(1);
        answers.due("count(7)", house.count(7), 500);
        house.run(1);
        answers.due("count(7): more than are kept", house.count(7), 501);
        house.run(20000);
        answers.due("count(7)", house.count(7), 10501);
        answers.due("count(0)", house.count(0), 21002);
    }

    private static void mainIsMadeToo(Answers answers) {
        answers.about(10, "3 processes made so far (main, too)");
        SessionHouse house = answers.started("proc f(){}proc main(){spawn f();spawn f();become g();}proc g(){spawn f();}");
        int[] made = {1, 2, 2, 3, 3, 3, 4, 4, 4};
        for (int i = 0; i < made.length; i++) {
            answers.due("count(3) behind " + i + " VISITS", house.count(3), made[i]);
            house.run(1);
        }
        answers.due("run(1)", house.run(1), 1);
        answers.due("count(3) when all are OVER", house.count(3), 4);
        answers.due("count(2)", house.count(2), 0);
    }

    private static void inputAndTape(Answers answers) {
        answers.about(10, "8 INPUT to be read; 9 bytes of the TAPE");
        SessionHouse house = new SessionHouse();
        house.input(1, 2, 3);
        house.feed(0, 0, 0, 0, 0);
        house.end(7);
        answers.due("count(8) ahead of a run", house.count(8), 3);
        answers.due("count(9) ahead of a run", house.count(9), 7);
        house.end(0);
        Answers.readBy(house, "proc main(){get x;get x;}");
        house.start();
        house.feed(0, 0, 0, 0, 0);
        house.run(1);
        answers.due("count(8) in a run", house.count(8), 2);
        answers.due("count(9) in a run", house.count(9), 20);
        house.run(9);
        answers.due("count(8) behind a run", house.count(8), 1);
        answers.due("count(9) behind a run", house.count(9), 20);
    }
}
