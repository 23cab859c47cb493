/** Promise 6: input. */
public final class InputTest {
    private static final String COPY = "proc main(){get n;while n{n=n-1;get x;put x;}}";
    private static final String ONE = "proc main(){get x;}";

    public static void main(String[] args) {
        Answers answers = new Answers();
        behindTheInput(answers);
        anyNumber(answers);
        howManyAreToBeRead(answers);
        atMostThreeHundred(answers);
        nothingIsAdded(answers);
        goesRound(answers);
        fullWhileItGoesRound(answers);
        answers.finish("InputTest");
    }

    private static void behindTheInput(Answers answers) {
        answers.about(6, "Three numbers behind the INPUT");
        SessionHouse house = new SessionHouse();
        answers.due("input(2, -5, 7)", house.input(2, -5, 7), 3);
        answers.due("input(1, 2147483647, 9)", house.input(1, Integer.MAX_VALUE, 9), 6);
        Answers.readBy(house, COPY);
        answers.due("count(8) behind program()", house.count(8), 6);
        house.start();
        answers.due("run(100)", house.run(100), 1);
        answers.puts(house, -5, 7);
        answers.due("count(8)", house.count(8), 3);
        house.start();
        answers.due("count(8) behind start()", house.count(8), 3);
        answers.due("run(100)", house.run(100), 1);
        answers.puts(house, Integer.MAX_VALUE);
        answers.due("count(8)", house.count(8), 1);
        answers.due("input(1, 2, 3)", house.input(1, 2, 3), 4);
        house.start();
        answers.due("run(100), nine being told", house.run(100), 2);
        answers.puts(house, 1, 2, 3);
        answers.due("count(8)", house.count(8), 0);
    }

    private static void anyNumber(Answers answers) {
        answers.about(6, "Three numbers");
        SessionHouse house = answers.started("proc main(){while 1{get x;put x;}}");
        house.input(Integer.MIN_VALUE, -1, 0);
        house.input(Integer.MAX_VALUE, 1, Integer.MIN_VALUE);
        answers.due("run(100)", house.run(100), 2);
        answers.puts(house, Integer.MIN_VALUE, -1, 0, Integer.MAX_VALUE, 1, Integer.MIN_VALUE);
    }

    /** What has been read does not count. */
    private static void howManyAreToBeRead(Answers answers) {
        answers.about(6, "Answers how many are to be read");
        SessionHouse house = answers.loaded(ONE);
        answers.due("input", house.input(1, 2, 3), 3);
        house.start();
        house.run(1);
        answers.due("count(8)", house.count(8), 2);
        answers.due("input", house.input(1, 2, 3), 5);
        for (int i = 0; i < 5; i++) {
            house.start();
            house.run(1);
        }
        answers.due("count(8)", house.count(8), 0);
        answers.due("input behind the last one that was read", house.input(1, 2, 3), 3);
    }

    private static void atMostThreeHundred(Answers answers) {
        answers.about(6, "-1: they would be more than 300");
        SessionHouse house = answers.loaded(ONE);
        for (int i = 1; i <= 100; i++) {
            answers.due("input " + i, house.input(0, 0, 0), 3 * i);
        }
        answers.due("input of 303", house.input(1, 1, 1), -1);
        for (int left = 299; left >= 298; left--) {
            house.start();
            house.run(1);
            answers.due("count(8)", house.count(8), left);
            answers.due("input of " + (left + 3), house.input(1, 1, 1), -1);
        }
        house.start();
        house.run(1);
        answers.due("input of 300", house.input(4, 5, 6), 300);
        answers.due("input of 303", house.input(1, 1, 1), -1);
    }

    private static void nothingIsAdded(Answers answers) {
        answers.about(6, "-1");
        SessionHouse house = answers.started("proc main(){while n<298{get x;n=n+1;}while 1{get x;put x;}}");
        for (int i = 0; i < 100; i++) {
            house.input(1, 2, 3);
        }
        answers.due("input of 303", house.input(7, 8, 9), -1);
        answers.due("count(8)", house.count(8), 300);
        answers.due("run(20000)", house.run(20000), 2);
        answers.puts(house, 2, 3);
    }

    /** Far more than 300 numbers in all, never more than 300 to be read. */
    private static void goesRound(Answers answers) {
        answers.about(6, "how many are to be read: they would be more than 300");
        SessionHouse house = answers.started("proc main(){while 1{get x;put x;}}");
        for (int i = 0; i < 130; i++) {
            answers.due("input " + i, house.input(3 * i, 3 * i + 1, 3 * i + 2), 3);
            answers.due("run(9)", house.run(9), 0);
        }
        answers.due("output(389)", house.output(389), 389);
        answers.due("output(301)", house.output(301), 301);
        house.input(-1, -2, -3);
        house.run(9);
        answers.due("output(392)", house.output(392), -3);
        answers.due("run(9)", house.run(9), 2);
    }

    /** 300 are to be read, and the oldest of them is not the first one that was told. */
    private static void fullWhileItGoesRound(Answers answers) {
        answers.about(6, "Three numbers behind the INPUT");
        SessionHouse house = answers.started("proc main(){while 1{get x;put x;}}");
        int told = 0;
        for (; told < 300; told += 3) {
            house.input(told, told + 1, told + 2);
        }
        house.run(3 * 50 * 3);
        for (; told < 450; told += 3) {
            answers.due("input", house.input(told, told + 1, told + 2), told - 150 + 3);
        }
        answers.due("count(8)", house.count(8), 300);
        answers.due("input of a full INPUT", house.input(1, 2, 3), -1);
        answers.due("run(20000)", house.run(20000), 2);
        for (int i = 0; i < 450; i++) {
            answers.due("output(" + i + ")", house.output(i), i);
        }
        answers.due("count(7)", house.count(7), 450);
    }
}
