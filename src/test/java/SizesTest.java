/** Promise 5: sizes. */
public final class SizesTest {
    private static final String TALK = "type S=!int S;proc f(c:~S){while 1{}become f(c);}"
            + "proc main(){spawn c f();while 1{send c 1;}become g(c);}proc g(c:S){become g(c);}";

    public static void main(String[] args) {
        Answers answers = new Answers();
        limits(answers);
        for (int n = 1; n <= 8; n++) {
            rowsHold(answers, n);
        }
        memoryIs(answers);
        fromTheNextStart(answers);
        answers.finish("SizesTest");
    }

    private static void limits(Answers answers) {
        SessionHouse house = new SessionHouse();
        answers.due("sizes(1, 10)", house.sizes(1, 10), 1);
        answers.due("sizes(8, 10000)", house.sizes(8, 10000), 1);
        answers.due("sizes(0, 100)", house.sizes(0, 100), -1);
        answers.due("sizes(9, 100)", house.sizes(9, 100), -1);
        answers.due("sizes(-1, 100)", house.sizes(-1, 100), -1);
        answers.due("sizes(4, 9)", house.sizes(4, 9), -1);
        answers.due("sizes(4, 10001)", house.sizes(4, 10001), -1);
        answers.due("sizes(4, least)", house.sizes(4, Integer.MIN_VALUE), -1);
        answers.due("sizes(greatest, greatest)", house.sizes(Integer.MAX_VALUE, Integer.MAX_VALUE), -1);
    }

    private static void rowsHold(Answers answers, int n) {
        SessionHouse house = answers.loaded(TALK);
        answers.due("sizes(" + n + ", 100)", house.sizes(n, 100), 1);
        answers.due("sizes(" + n + ", 5), which changes nothing", house.sizes(9 - n, 5), -1);
        house.start();
        answers.due("run(100)", house.run(100), 0);
        answers.due("messages in ROWS of " + n, house.count(6), n);
        answers.due("MEMORY with ROWS of " + n, house.count(4), 5 + 5 + 4 + 2 * n);
    }

    private static void memoryIs(Answers answers) {
        SessionHouse house = answers.loaded(TALK);
        house.sizes(1, 16);
        house.start();
        answers.due("run(100) with as many cells as needed", house.run(100), 0);
        house.sizes(1, 15);
        house.start();
        answers.due("run(100) with one cell less", house.run(100), 4);
    }

    private static void fromTheNextStart(Answers answers) {
        SessionHouse house = answers.started(TALK);
        house.sizes(2, 10);
        answers.due("run(100)", house.run(100), 0);
        answers.due("messages, ROWS of 4 being those of the start", house.count(6), 4);
        answers.due("MEMORY", house.count(4), 22);
        answers.due("start()", house.start(), 0);
        answers.due("run(100) with ten cells", house.run(100), 4);
        Answers.tape(house, TALK);
        house.program();
        house.start();
        answers.due("run(100) of the next program", house.run(100), 4);
    }
}
