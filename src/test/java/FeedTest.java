/** Promise 2: feed. */
public final class FeedTest {
    public static void main(String[] args) {
        Answers answers = new Answers();
        highestByteFirst(answers);
        atMostThreeThousand(answers);
        everyByte(answers);
        answers.finish("FeedTest");
    }

    /** "proc main() {put 42;}": the numbers are written out, so that the order of bytes counts. */
    private static void highestByteFirst(Answers answers) {
        SessionHouse house = new SessionHouse();
        answers.due("first feed", house.feed(0x70726f63, 0x206d6169, 0x6e282920, 0x7b707574, 0x2034323b), 20);
        answers.due("second feed", house.feed(0x7d202020, 0x20202020, 0x20202020, 0x20202020, 0x20202020), 40);
        answers.due("count(9)", house.count(9), 40);
        answers.due("program()", house.program(), 1);
        answers.due("count(9) behind it", house.count(9), 0);
        answers.due("start()", house.start(), 0);
        answers.due("run(2)", house.run(2), 1);
        answers.due("output(0)", house.output(0), 42);
    }

    private static void atMostThreeThousand(Answers answers) {
        SessionHouse house = new SessionHouse();
        for (int i = 1; i <= 150; i++) {
            answers.due("feed " + i, house.feed(0, 0, 0, 0, 0), 20 * i);
        }
        answers.due("feed of a full TAPE", house.feed(1, 2, 3, 4, 5), -1);
        answers.due("count(9)", house.count(9), 3000);
        house.end(2981);
        answers.due("feed with 19 bytes left", house.feed(1, 2, 3, 4, 5), -1);
        answers.due("count(9), nothing being done", house.count(9), 2981);
        house.end(2980);
        answers.due("feed with 20 bytes left", house.feed(1, 2, 3, 4, 5), 3000);
    }

    /** The highest bit of a number is an ordinary one: 255 begins no word. */
    private static void everyByte(Answers answers) {
        SessionHouse house = new SessionHouse();
        house.feed(0x20202020, 0x0a0a0a0a, 0x202020ff, 0, 0);
        answers.due("program()", house.program(), -1 - 11);
        house.feed(0x20202020, -1, -1, -1, -1);
        answers.due("program()", house.program(), -1 - 4);
        house.feed(Integer.MIN_VALUE, 0, 0, 0, 0);
        answers.due("program()", house.program(), -1);
    }
}
