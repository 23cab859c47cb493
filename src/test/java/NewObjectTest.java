/** Promise 1: a new object; and what the document says of one object and its calls as a whole. */
public final class NewObjectTest {
    private static final String MAKER = "proc f(){while 1{}}proc main(){while 1{spawn f();}}";

    public static void main(String[] args) {
        Answers answers = new Answers();
        noProgram(answers);
        rowsOfFour(answers);
        memoryOfTwoThousand(answers);
        emptyTape(answers);
        noInput(answers);
        everyObjectIsNew(answers);
        lastOfAllCalls(answers);
        answers.finish("NewObjectTest");
    }

    private static void noProgram(Answers answers) {
        answers.about(1, "No program");
        SessionHouse house = new SessionHouse();
        answers.due("start()", house.start(), -1);
        answers.due("run(0)", house.run(0), -1);
        answers.due("run(1)", house.run(1), -1);
        answers.due("output(0)", house.output(0), 0);
        answers.due("process(0, 0, 0)", house.process(0, 0, 0), -1);
        answers.due("process(0, 1, 0)", house.process(0, 1, 0), 0);
        answers.due("types(0, 0, 0)", house.types(0, 0, 0), -1);
        answers.counts(house, 0, 0, 0, 0, 0, 0, 0, 0, 0, 0);
    }

    private static void rowsOfFour(Answers answers) {
        answers.about(1, "ROWS of 4");
        SessionHouse house = answers.started(
                "type S=!int!int!int!int!int end;proc f(c:~S){while 1{}recv c x;recv c x;recv c x;recv c x;recv c x;}"
                + "proc main(){spawn c f();send c 1;send c 2;send c 3;send c 4;send c 5;}");
        answers.due("run(9): five of main, four of f", house.run(9), 0);
        answers.due("messages when the fourth was sent", house.count(6), 4);
        answers.due("run(100): there is no room for the fifth", house.run(100), 0);
        answers.due("messages in a full ROW", house.count(6), 4);
        answers.due("MEMORY in use", house.count(4), 5 + 6 + 12);
    }

    private static void memoryOfTwoThousand(Answers answers) {
        answers.about(1, "MEMORY 2000");
        SessionHouse house = answers.started(MAKER);
        answers.due("run(20000), again and again", Answers.runOn(house, 20), 4);
        answers.due("MEMORY in use: 2000 cells are not too many", house.count(4), 2000);
        answers.due("processes", house.count(2), 500);
        house = answers.started("proc f(){while 1{}}proc main(){x=1;while x{spawn f();}}");
        answers.due("run(20000), again and again", Answers.runOn(house, 20), 4);
        answers.due("MEMORY in use: 2001 cells are too many", house.count(4), 1997);
        answers.due("processes", house.count(2), 499);
    }

    private static void emptyTape(Answers answers) {
        answers.about(1, "an empty TAPE");
        SessionHouse house = new SessionHouse();
        answers.due("count(9)", house.count(9), 0);
        answers.due("end(1)", house.end(1), -1);
        answers.due("end(0)", house.end(0), 0);
        answers.due("program() of an empty TAPE", house.program(), -1);
        answers.due("first feed", new SessionHouse().feed(0, 0, 0, 0, 0), 20);
    }

    private static void noInput(Answers answers) {
        answers.about(1, "no INPUT");
        answers.due("count(8)", new SessionHouse().count(8), 0);
        answers.due("first input", new SessionHouse().input(1, 2, 3), 3);
        SessionHouse house = answers.started("proc main(){get x;}");
        answers.due("run(1)", house.run(1), 2);
    }

    private static void everyObjectIsNew(Answers answers) {
        answers.about(1, "A new object");
        SessionHouse used = answers.startedWith(1, 10, "proc main(){put 3;}");
        used.input(1, 2, 3);
        used.feed(1, 2, 3, 4, 5);
        used.run(1);
        SessionHouse house = new SessionHouse();
        answers.counts(house, 0, 0, 0, 0, 0, 0, 0, 0, 0, 0);
        answers.due("start()", house.start(), -1);
        answers.due("output(0)", house.output(0), 0);
        Answers.readBy(house, MAKER);
        house.start();
        answers.due("run(20): MEMORY is not the other object's", house.run(20), 0);
        answers.due("output(0) of the other object", used.output(0), 3);
        answers.due("count(2) of the other object", used.count(2), 1);
    }

    /** Five calls and 169 times three: the last of 512 calls answers as the first ones do. */
    private static void lastOfAllCalls(Answers answers) {
        answers.about(1, "An object is used for at most 512 calls after it has been made");
        SessionHouse house = new SessionHouse();
        String text = "proc main(){spawn main();}";
        answers.due("calls to feed, and end()", (text.length() + 19) / 20 + 1, 3);
        Answers.tape(house, text);
        answers.due("sizes(8, 10000)", house.sizes(8, 10000), 1);
        answers.due("program()", house.program(), 1);
        for (int call = 6; call <= 512; call += 3) {
            answers.due("start() as call " + call, house.start(), 0);
            answers.due("run(20000) as call " + (call + 1), house.run(20000), 4);
            answers.due("count(0) as call " + (call + 2), house.count(0), 2500);
        }
    }
}
