/** Promise 6: input. */
public final class InputTest {
    private static final String COPY = "proc main(){get n;while n{n=n-1;get x;put x;}}";

    public static void main(String[] args) {
        Answers answers = new Answers();
        readInOrder(answers);
        atMostThreeHundred(answers);
        goesRound(answers);
        answers.finish("InputTest");
    }

    private static void readInOrder(Answers answers) {
        SessionHouse house = new SessionHouse();
        answers.due("input(2, -5, 7)", house.input(2, -5, 7), 3);
        answers.due("count(8)", house.count(8), 3);
        answers.due("input(1, 2147483647, 9)", house.input(1, Integer.MAX_VALUE, 9), 6);
        Answers.tape(house, COPY);
        house.program();
        answers.due("count(8) behind program()", house.count(8), 6);
        house.start();
        answers.due("run(100)", house.run(100), 1);
        answers.due("output(0)", house.output(0), -5);
        answers.due("output(1)", house.output(1), 7);
        answers.due("count(8)", house.count(8), 3);
        house.start();
        answers.due("count(8) behind start()", house.count(8), 3);
        answers.due("run(100)", house.run(100), 1);
        answers.due("output(0)", house.output(0), Integer.MAX_VALUE);
        answers.due("count(8)", house.count(8), 1);
        answers.due("input(1, 2, 3)", house.input(1, 2, 3), 4);
        house.start();
        answers.due("run(100), nine being told", house.run(100), 2);
        answers.due("count(8)", house.count(8), 0);
        answers.due("output(2)", house.output(2), 3);
    }

    private static void atMostThreeHundred(Answers answers) {
        SessionHouse house = answers.loaded(COPY);
        for (int i = 1; i <= 100; i++) {
            answers.due("input " + i, house.input(0, 0, 0), 3 * i);
        }
        answers.due("input of 303", house.input(1, 1, 1), -1);
        answers.due("count(8), nothing being done", house.count(8), 300);
        house.start();
        house.run(1);
        answers.due("count(8)", house.count(8), 299);
        answers.due("input of 302", house.input(1, 1, 1), -1);
        house.start();
        house.run(1);
        answers.due("input of 301", house.input(1, 1, 1), -1);
        house.start();
        house.run(1);
        answers.due("input of 300", house.input(4, 5, 6), 300);
    }

    /** Far more than 300 numbers in all, never more than 300 to be read. */
    private static void goesRound(Answers answers) {
        SessionHouse house = answers.started("proc main(){while 1{get x;put x;}}");
        for (int i = 0; i < 130; i++) {
            answers.due("input " + i, house.input(3 * i, 3 * i + 1, 3 * i + 2), 3);
            answers.due("run(9)", house.run(9), 0);
        }
        answers.due("output(389)", house.output(389), 389);
        answers.due("output(301)", house.output(301), 301);
        house.input(-1, -2, -3);
        house.run(9);
        answers.due("output(392)", house.output(392), -3);
        answers.due("run(9)", house.run(9), 2);
    }
}
