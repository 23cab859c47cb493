/** Promise 2: feed. */
public final class FeedTest {
    public static void main(String[] args) {
        Answers answers = new Answers();
        highestByteFirst(answers);
        howManyItHas(answers);
        atMostThreeThousand(answers);
        nothingIsDone(answers);
        everyByte(answers);
        answers.finish("FeedTest");
    }

    /** "proc main() {put 42;}": the numbers are written out, so that the order of bytes counts. */
    private static void highestByteFirst(Answers answers) {
        answers.about(2, "Twenty bytes more of the TAPE, the highest of each number first");
        SessionHouse house = new SessionHouse();
        answers.due("first feed", house.feed(0x70726f63, 0x206d6169, 0x6e282920, 0x7b707574, 0x2034323b), 20);
        answers.due("second feed", house.feed(0x7d202020, 0x20202020, 0x20202020, 0x20202020, 0x20202020), 40);
        answers.due("count(9)", house.count(9), 40);
        answers.due("program()", house.program(), 1);
        answers.due("start()", house.start(), 0);
        answers.due("run(2)", house.run(2), 1);
        answers.due("output(0)", house.output(0), 42);
    }

    private static void howManyItHas(Answers answers) {
        answers.about(2, "how many it has");
        SessionHouse house = new SessionHouse();
        for (int i = 1; i <= 150; i++) {
            answers.due("feed " + i, house.feed(i, -i, 0, i, i), 20 * i);
            answers.due("count(9)", house.count(9), 20 * i);
        }
        house.program();
        answers.due("feed of the TAPE that program() emptied", house.feed(0, 0, 0, 0, 0), 20);
        house.end(3);
        answers.due("feed behind three bytes", house.feed(0, 0, 0, 0, 0), 23);
    }

    private static void atMostThreeThousand(Answers answers) {
        answers.about(2, "-1: they would be more than 3000");
        SessionHouse house = new SessionHouse();
        for (int i = 1; i < 150; i++) {
            house.feed(0, 0, 0, 0, 0);
        }
        answers.due("feed that makes it full", house.feed(0, 0, 0, 0, 0), 3000);
        answers.due("feed of a full TAPE", house.feed(0, 0, 0, 0, 0), -1);
        house.end(2999);
        answers.due("feed with one byte left", house.feed(0, 0, 0, 0, 0), -1);
        house.end(2981);
        answers.due("feed with 19 bytes left", house.feed(0, 0, 0, 0, 0), -1);
        house.end(2980);
        answers.due("feed with 20 bytes left", house.feed(0, 0, 0, 0, 0), 3000);
    }

    /** A refused feed of signs changes neither how long the TAPE is nor what stands on it. */
    private static void nothingIsDone(Answers answers) {
        answers.about(2, "-1, and nothing is done");
        SessionHouse house = new SessionHouse();
        Answers.tape(house, " ".repeat(2968) + "proc main(){}");
        answers.due("count(9)", house.count(9), 2981);
        answers.due("feed of 19 bytes too many", house.feed(-1, -1, -1, -1, -1), -1);
        answers.due("count(9)", house.count(9), 2981);
        answers.due("end(2982): nothing was added", house.end(2982), -1);
        answers.due("program()", house.program(), 1);
        Answers.tape(house, "proc main(){}" + " ".repeat(2987));
        answers.due("feed of a full TAPE", house.feed(-1, -1, -1, -1, -1), -1);
        answers.due("count(9)", house.count(9), 3000);
        answers.due("program()", house.program(), 1);
    }

    /** The highest bit of a number is an ordinary one: 255 begins no word. */
    private static void everyByte(Answers answers) {
        answers.about(2, "the highest of each number first");
        SessionHouse house = new SessionHouse();
        house.feed(0x20202020, 0x0a0a0a0a, 0x202020ff, 0, 0);
        answers.due("program()", house.program(), -1 - 11);
        house.feed(0x20202020, -1, -1, -1, -1);
        answers.due("program()", house.program(), -1 - 4);
        house.feed(Integer.MIN_VALUE, 0, 0, 0, 0);
        answers.due("program()", house.program(), -1);
        int blanks = 0x20202020;
        for (int i = 0; i < 20; i++) {
            int[] five = {blanks, blanks, blanks, blanks, blanks};
            five[i / 4] ^= 0xa0 << 8 * (3 - i % 4);
            house.feed(five[0], five[1], five[2], five[3], five[4]);
            answers.due("program() with byte 128 at " + i, house.program(), -1 - i);
        }
    }
}
