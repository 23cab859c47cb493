/** Promise 3: end. */
public final class EndTest {
    public static void main(String[] args) {
        Answers answers = new Answers();
        SessionHouse house = new SessionHouse();
        answers.due("end(0) of nothing", house.end(0), 0);
        answers.due("end(1) of nothing", house.end(1), -1);
        answers.due("end(-1)", house.end(-1), -1);
        house.feed(0, 0, 0, 0, 0);
        answers.due("end(21)", house.end(21), -1);
        answers.due("end(20)", house.end(20), 20);
        answers.due("end(-1)", house.end(-1), -1);
        answers.due("end of the least number", house.end(Integer.MIN_VALUE), -1);
        answers.due("end of the greatest number", house.end(Integer.MAX_VALUE), -1);
        answers.due("count(9), nothing being done", house.count(9), 20);
        answers.due("end(7)", house.end(7), 7);
        answers.due("count(9)", house.count(9), 7);
        answers.due("end(8)", house.end(8), -1);
        answers.due("feed behind the seven", house.feed(0, 0, 0, 0, 0), 27);
        answers.due("end(0)", house.end(0), 0);
        firstBytesAreKept(answers);
        answers.finish("EndTest");
    }

    private static void firstBytesAreKept(Answers answers) {
        SessionHouse house = new SessionHouse();
        Answers.tape(house, "proc main(){put 1;}proc main(){}");
        answers.due("end(19)", house.end(19), 19);
        answers.due("program()", house.program(), 1);
        answers.due("end(1) behind program()", house.end(1), -1);
        Answers.tape(house, "proc main(){put 123;}");
        house.end(18);
        house.feed(0x3b7d2020, 0x20202020, 0x20202020, 0x20202020, 0x20202020);
        answers.due("program() of two pieces", house.program(), 1);
        house.start();
        house.run(5);
        answers.due("output(0)", house.output(0), 12);
    }
}
