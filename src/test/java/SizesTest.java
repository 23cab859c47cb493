/** Promise 5: sizes. */
public final class SizesTest {
    private static final String TALK = "type S=!int S;proc f(c:~S){while 1{}become f(c);}"
            + "proc main(){spawn c f();while 1{send c 1;}become g(c);}proc g(c:S){become g(c);}";

    public static void main(String[] args) {
        Answers answers = new Answers();
        limits(answers);
        refusedChangesNothing(answers);
        for (int n = 1; n <= 8; n++) {
            rowsHold(answers, n);
        }
        memoryIs(answers);
        leastAndMostMemory(answers);
        fromTheNextStart(answers);
        stayAsTheyAre(answers);
        answers.finish("SizesTest");
    }

    private static void limits(Answers answers) {
        answers.about(5, "Answers 1. -1: n is not 1 .. 8, cells not 10 .. 10000");
        SessionHouse house = new SessionHouse();
        int[][] good = {{1, 10}, {8, 10000}, {1, 10000}, {8, 10}, {4, 2000}, {2, 11}, {7, 9999}};
        for (int[] g : good) {
            answers.due("sizes(" + g[0] + ", " + g[1] + ")", house.sizes(g[0], g[1]), 1);
        }
        int[][] refused = {{0, 100}, {9, 100}, {-1, 100}, {4, 9}, {4, 10001}, {4, 0}, {4, -10}, {0, 9}, {9, 10001},
            {4, Integer.MIN_VALUE}, {4, Integer.MAX_VALUE}, {Integer.MIN_VALUE, 100}, {Integer.MAX_VALUE, 100}};
        for (int[] r : refused) {
            answers.due("sizes(" + r[0] + ", " + r[1] + ")", house.sizes(r[0], r[1]), -1);
        }
    }

    /** Neither of the two is taken when the other one is refused. */
    private static void refusedChangesNothing(Answers answers) {
        answers.about(5, "-1");
        SessionHouse house = answers.loaded(TALK);
        house.sizes(2, 18);
        answers.due("sizes(5, 9)", house.sizes(5, 9), -1);
        answers.due("sizes(5, 10001)", house.sizes(5, 10001), -1);
        answers.due("sizes(0, 100)", house.sizes(0, 100), -1);
        answers.due("sizes(9, 10)", house.sizes(9, 10), -1);
        house.start();
        answers.due("run(100): 18 cells are enough", house.run(100), 0);
        answers.due("messages in ROWS of 2", house.count(6), 2);
        answers.due("count(4)", house.count(4), 18);
    }

    private static void rowsHold(Answers answers, int n) {
        answers.about(5, "ROWS of n messages");
        SessionHouse house = answers.startedWith(n, 100, TALK);
        answers.due("run(100)", house.run(100), 0);
        answers.due("messages in ROWS of " + n, house.count(6), n);
        answers.due("MEMORY with ROWS of " + n, house.count(4), 5 + 5 + 4 + 2 * n);
    }

    private static void memoryIs(Answers answers) {
        answers.about(5, "MEMORY of cells");
        for (int n = 1; n <= 8; n++) {
            SessionHouse house = answers.startedWith(n, 14 + 2 * n, TALK);
            answers.due("run(100) with as many cells as needed", house.run(100), 0);
            house.sizes(n, 13 + 2 * n);
            house.start();
            answers.due("run(100) with one cell less", house.run(100), 4);
        }
    }

    private static void leastAndMostMemory(Answers answers) {
        answers.about(5, "cells 10 .. 10000");
        SessionHouse house = answers.startedWith(1, 10, "proc f(a,b){}proc main(){spawn f(1,2);}");
        answers.due("run(9): four and six are ten", house.run(9), 1);
        house = answers.startedWith(1, 10, "proc f(a,b,c){}proc main(){spawn f(1,2,3);}");
        answers.due("run(9): four and seven are more", house.run(9), 4);
        house = answers.startedWith(8, 10000, "proc f(){spawn f();}proc main(){x=1;y=x;spawn f();}");
        answers.due("run(20000)", house.run(20000), 4);
        answers.due("count(4): 6 of main and 2498 times 4", house.count(4), 9998);
    }

    private static void fromTheNextStart(Answers answers) {
        answers.about(5, "from the next start() on");
        SessionHouse house = answers.started(TALK);
        house.sizes(2, 10);
        answers.due("run(100)", house.run(100), 0);
        answers.due("messages, ROWS of 4 being those of the start", house.count(6), 4);
        answers.due("MEMORY", house.count(4), 22);
        answers.due("start()", house.start(), 0);
        answers.due("run(100) with ten cells", house.run(100), 4);
        house.sizes(8, 10000);
        answers.due("run(1) of the run that has ended", house.run(1), 4);
        house.start();
        answers.due("run(100)", house.run(100), 0);
        answers.due("messages", house.count(6), 8);
    }

    private static void stayAsTheyAre(Answers answers) {
        answers.about(5, "from the next start() on");
        SessionHouse house = new SessionHouse();
        house.sizes(3, 20);
        for (int i = 0; i < 3; i++) {
            answers.due("program()", Answers.readBy(house, TALK), 3);
            house.start();
            answers.due("run(100)", house.run(100), 0);
            answers.due("messages", house.count(6), 3);
            Answers.readBy(house, "proc");
        }
    }
}
