/** Promise 10: count. */
public final class CountTest {
    private static final String TALK = "type S=!int!int?int end;proc f(c:~S,k){recv c x;recv c y;send c x+y;put k;}"
            + "proc main(){spawn c f(9);send c 1;send c 2;recv c z;put z;}";

    public static void main(String[] args) {
        Answers answers = new Answers();
        noSuchWhat(answers);
        aheadOfARun(answers);
        step(answers);
        closedEnds(answers);
        messagesOfAllRows(answers);
        answers.finish("CountTest");
    }

    private static void noSuchWhat(Answers answers) {
        SessionHouse house = answers.started(TALK);
        answers.due("count(-1)", house.count(-1), -1);
        answers.due("count(10)", house.count(10), -1);
        answers.due("count(least)", house.count(Integer.MIN_VALUE), -1);
        answers.due("count(greatest)", house.count(Integer.MAX_VALUE), -1);
        answers.due("count(-1) of a new object", new SessionHouse().count(-1), -1);
    }

    private static void aheadOfARun(Answers answers) {
        SessionHouse house = answers.loaded(TALK);
        house.input(1, 2, 3);
        house.feed(1, 2, 3, 4, 5);
        all(answers, house, 0, 0, 0, 0, 0, 0, 0, 0, 3, 20);
        house.start();
        all(answers, house, 0, 0, 1, 1, 6, 0, 0, 0, 3, 20);
    }

    private static void all(Answers answers, SessionHouse house, int... due) {
        for (int what = 0; what < due.length; what++) {
            answers.due("count(" + what + ") of VISIT " + house.count(0), house.count(what), due[what]);
        }
    }

    /** main takes 6 cells, f 8, the channel 12. */
    private static void step(Answers answers) {
        SessionHouse house = answers.started(TALK);
        int[][] due = {
            {1, 1, 2, 2, 26, 1, 0, 0},  // main: spawn
            {2, 1, 2, 2, 26, 1, 0, 0},  // f: blocked
            {3, 2, 2, 2, 26, 1, 1, 0},  // main: send
            {4, 3, 2, 2, 26, 1, 0, 0},  // f: recv
            {5, 4, 2, 2, 26, 1, 1, 0},  // main: send
            {6, 5, 2, 2, 26, 1, 0, 0},  // f: recv
            {7, 5, 2, 2, 26, 1, 0, 0},  // main: blocked
            {8, 6, 2, 2, 26, 1, 1, 0},  // f: send, its end is CLOSED
            {9, 7, 2, 2, 14, 0, 0, 0},  // main: recv, the channel is gone
            {10, 8, 2, 2, 14, 0, 0, 1}, // f: put
            {11, 9, 2, 2, 14, 0, 0, 2}, // main: put
            {12, 9, 1, 2, 6, 0, 0, 2},  // f is OVER
            {13, 9, 0, 2, 0, 0, 0, 2},  // main is OVER
        };
        for (int[] row : due) {
            answers.due("run(1)", house.run(1), row[0] == 13 ? 1 : 0);
            all(answers, house, row);
        }
    }

    /** An end may be CLOSED long ahead of the other one; a LABEL may close it. */
    private static void closedEnds(Answers answers) {
        SessionHouse house = answers.started("type S=+{a end;b !int end};proc f(c:~S){put 1;case c{a{put 2;}b{recv c x;}}}"
                + "proc main(){spawn c f();pick c a;c=4;}");
        house.run(3);
        answers.due("count(5): one end is CLOSED", house.count(5), 1);
        answers.due("count(6): the LABEL", house.count(6), 1);
        answers.due("process(0, 1, 0)", house.process(0, 1, 0), 0);
        answers.due("process(1, 1, 0)", house.process(1, 1, 0), 1);
        answers.due("count(4)", house.count(4), 5 + 6 + 12);
        house.run(1);
        answers.due("count(5)", house.count(5), 0);
        answers.due("count(6)", house.count(6), 0);
        answers.due("count(4)", house.count(4), 11);
        answers.due("run(50)", house.run(50), 1);
    }

    private static void messagesOfAllRows(Answers answers) {
        SessionHouse house = answers.loaded("type S=!int!int?int?int end;proc f(c:S){send c 1;send c 2;recv c x;recv c x;}"
                + "proc g(c:~S,n){while n{n=n-1;}recv c x;recv c x;send c 1;send c 1;}"
                + "proc main(){spawn c f();spawn d f();spawn g(c,5);spawn g(d,5);}");
        house.sizes(2, 200);
        house.start();
        house.run(20);
        answers.due("count(6)", house.count(6), 4);
        answers.due("count(5)", house.count(5), 2);
        answers.due("count(2)", house.count(2), 4);
        answers.due("count(3)", house.count(3), 5);
        answers.due("run(200)", house.run(200), 1);
        answers.due("count(6)", house.count(6), 0);
        answers.due("count(5)", house.count(5), 0);
    }
}
