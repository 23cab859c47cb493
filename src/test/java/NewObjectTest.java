/** Promise 1: a new object. */
public final class NewObjectTest {
    public static void main(String[] args) {
        Answers answers = new Answers();
        SessionHouse house = new SessionHouse();
        for (int what = 0; what <= 9; what++) {
            answers.due("count(" + what + ")", house.count(what), 0);
        }
        answers.due("start()", house.start(), -1);
        answers.due("run(1)", house.run(1), -1);
        answers.due("output(0)", house.output(0), 0);
        answers.due("process(0, 0, 0)", house.process(0, 0, 0), -1);
        answers.due("process(0, 1, 0)", house.process(0, 1, 0), 0);
        answers.due("types(0, 0, 0)", house.types(0, 0, 0), -1);
        answers.due("end(0)", house.end(0), 0);
        answers.due("program() of an empty TAPE", house.program(), -1);
        rowsOfFour(answers);
        memoryOfTwoThousand(answers);
        answers.finish("NewObjectTest");
    }

    private static void rowsOfFour(Answers answers) {
        SessionHouse house = answers.started(
                "type S=!int!int!int!int!int end;proc f(c:~S){while 1{}recv c x;recv c x;recv c x;recv c x;recv c x;}"
                + "proc main(){spawn c f();send c 1;send c 2;send c 3;send c 4;send c 5;}");
        answers.due("run(100)", house.run(100), 0);
        answers.due("messages in a full ROW", house.count(6), 4);
        answers.due("MEMORY in use", house.count(4), 5 + 6 + 12);
    }

    private static void memoryOfTwoThousand(Answers answers) {
        SessionHouse house = answers.started("proc f(){while 1{}}proc main(){while 1{spawn f();}}");
        int ended = 0;
        for (int i = 0; i < 20 && ended == 0; i++) {
            ended = house.run(20000);
        }
        answers.due("run(20000), again and again", ended, 4);
        answers.due("MEMORY in use", house.count(4), 2000);
        answers.due("processes", house.count(2), 500);
    }
}
