/** Promise 9: output. */
public final class OutputTest {
    private static final String THREES = "proc main(){while 1{x=x+3;put x;}}";

    public static void main(String[] args) {
        Answers answers = new Answers();
        theOnesThatWerePut(answers);
        noneThere(answers);
        fiveHundred(answers);
        firstOnesAreKept(answers);
        ofThisRunAlone(answers);
        answers.finish("OutputTest");
    }

    private static void theOnesThatWerePut(Answers answers) {
        answers.about(9, "The i-th number that was put (from 0)");
        SessionHouse house = answers.started("proc f(n){put n;put -n;}proc main(){spawn f(5);put 1;put -999999999*2-147483650;put 0;}");
        answers.due("run(20)", house.run(20), 1);
        answers.puts(house, 5, 1, -5, Integer.MIN_VALUE, 0);
    }

    private static void noneThere(Answers answers) {
        answers.about(9, "0 if there is none");
        SessionHouse house = new SessionHouse();
        int[] places = {0, 1, -1, 499, 500, 501, Integer.MAX_VALUE, Integer.MIN_VALUE};
        for (int i : places) {
            answers.due("output(" + i + ") of a new object", house.output(i), 0);
        }
        house = answers.started(THREES);
        for (int i : places) {
            answers.due("output(" + i + ") of a new run", house.output(i), 0);
        }
        house.run(3);
        answers.due("output(0)", house.output(0), 3);
        for (int k = 1; k < places.length; k++) {
            answers.due("output(" + places[k] + ") with one that was put", house.output(places[k]), 0);
        }
    }

    private static void fiveHundred(Answers answers) {
        answers.about(9, "500 are kept");
        SessionHouse house = answers.started(THREES);
        house.run(3 * 499);
        answers.due("count(7)", house.count(7), 499);
        answers.due("output(498)", house.output(498), 3 * 499);
        answers.due("output(499), which is not there yet", house.output(499), 0);
        house.run(3);
        answers.due("count(7)", house.count(7), 500);
        answers.due("output(499), the last one that is kept", house.output(499), 1500);
        answers.due("output(500)", house.output(500), 0);
        house.run(3);
        answers.due("count(7)", house.count(7), 501);
        answers.due("output(500), which is not kept", house.output(500), 0);
        answers.due("output(499)", house.output(499), 1500);
    }

    private static void firstOnesAreKept(Answers answers) {
        answers.about(9, "The i-th number that was put (from 0; 500 are kept)");
        SessionHouse house = answers.started(THREES);
        house.run(20000);
        answers.due("count(7) counts all", house.count(7), 6666);
        for (int i = 0; i < 500; i++) {
            answers.due("output(" + i + ")", house.output(i), 3 * i + 3);
        }
        answers.due("output(6665)", house.output(6665), 0);
        answers.due("run(1): the run goes on", house.run(1), 0);
    }

    private static void ofThisRunAlone(Answers answers) {
        answers.about(9, "0 if there is none");
        SessionHouse house = answers.started(THREES);
        house.run(20000);
        house.start();
        answers.due("output(0) of the next run", house.output(0), 0);
        answers.due("output(499) of the next run", house.output(499), 0);
        house.run(3);
        answers.due("output(0)", house.output(0), 3);
        answers.due("output(1)", house.output(1), 0);
        Answers.readBy(house, "proc main(){put 1;}");
        answers.due("output(0) behind program()", house.output(0), 0);
    }
}
