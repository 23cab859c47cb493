/** Promise 3: end. */
public final class EndTest {
    public static void main(String[] args) {
        Answers answers = new Answers();
        answersN(answers);
        notSoMany(answers);
        belowNought(answers);
        firstBytesAreKept(answers);
        cutInsideAWord(answers);
        answers.finish("EndTest");
    }

    private static void answersN(Answers answers) {
        answers.about(3, "The TAPE keeps its first n bytes: n");
        SessionHouse house = new SessionHouse();
        answers.due("end(0) of nothing", house.end(0), 0);
        house.feed(0, 0, 0, 0, 0);
        answers.due("end(20) of twenty", house.end(20), 20);
        answers.due("count(9)", house.count(9), 20);
        answers.due("end(7)", house.end(7), 7);
        answers.due("count(9)", house.count(9), 7);
        answers.due("feed behind the seven", house.feed(0, 0, 0, 0, 0), 27);
        answers.due("end(0)", house.end(0), 0);
        answers.due("count(9)", house.count(9), 0);
        Answers.tape(house, " ".repeat(3000));
        answers.due("end(3000) of a full TAPE", house.end(3000), 3000);
    }

    private static void notSoMany(Answers answers) {
        answers.about(3, "-1, and nothing is done: it has not so many");
        SessionHouse house = new SessionHouse();
        answers.due("end(1) of nothing", house.end(1), -1);
        house.feed(0, 0, 0, 0, 0);
        answers.due("end(21) of twenty", house.end(21), -1);
        answers.due("end of the greatest number", house.end(Integer.MAX_VALUE), -1);
        answers.due("count(9)", house.count(9), 20);
        house.end(7);
        answers.due("end(8), which it had once", house.end(8), -1);
        answers.due("count(9)", house.count(9), 7);
        house.end(0);
        Answers.tape(house, " ".repeat(2987) + "proc main(){}");
        answers.due("end(3001) of a full TAPE", house.end(3001), -1);
        answers.due("count(9)", house.count(9), 3000);
        answers.due("program()", house.program(), 1);
        answers.due("end(1) behind program()", house.end(1), -1);
    }

    private static void belowNought(Answers answers) {
        answers.about(3, "-1, and nothing is done: n is below 0");
        SessionHouse house = new SessionHouse();
        answers.due("end(-1) of nothing", house.end(-1), -1);
        Answers.tape(house, "proc main(){}");
        answers.due("end(-1)", house.end(-1), -1);
        answers.due("end of the least number", house.end(Integer.MIN_VALUE), -1);
        answers.due("count(9)", house.count(9), 13);
        answers.due("program()", house.program(), 1);
    }

    private static void firstBytesAreKept(Answers answers) {
        answers.about(3, "The TAPE keeps its first n bytes");
        SessionHouse house = new SessionHouse();
        Answers.tape(house, "proc main(){put 1;}proc main(){}");
        answers.due("end(19)", house.end(19), 19);
        answers.due("program()", house.program(), 1);
        Answers.tape(house, "proc main(){put 123;}");
        house.end(18);
        house.feed(0x3b7d2020, 0x20202020, 0x20202020, 0x20202020, 0x20202020);
        answers.due("program() of two pieces", house.program(), 1);
        house.start();
        house.run(5);
        answers.due("output(0)", house.output(0), 12);
    }

    /** What stood behind the n-th byte belongs to no word any more. */
    private static void cutInsideAWord(Answers answers) {
        answers.about(3, "The TAPE keeps its first n bytes");
        cut(answers, "pro", "c main(){}", -1);
        cut(answers, "proc main(){}pro", "c f(){}", -1 - 13);
        cut(answers, "proc main(){x=", "=1;}", -1 - 14);
        cut(answers, "proc main(){put 123456789", "0;}", -1 - 25);
        cut(answers, "type A=e", "nd;proc main(){}", -1 - 8);
        cut(answers, "proc main(){}", "@", 1);
        cut(answers, "proc main(){}", "x", 1);
    }

    private static void cut(Answers answers, String kept, String gone, int due) {
        SessionHouse house = new SessionHouse();
        Answers.tape(house, kept + gone);
        answers.due("end()", house.end(kept.length()), kept.length());
        answers.due("program() of " + kept + ", which was cut off", house.program(), due);
    }
}
