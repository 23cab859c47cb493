/** Promise 7: start. */
public final class StartTest {
    public static void main(String[] args) {
        Answers answers = new Answers();
        withoutProgram(answers);
        begins(answers);
        againAndAgain(answers);
        tooLittleMemory(answers);
        answers.finish("StartTest");
    }

    private static void withoutProgram(Answers answers) {
        SessionHouse house = new SessionHouse();
        answers.due("start()", house.start(), -1);
        Answers.tape(house, "proc main(){}");
        answers.due("start() ahead of program()", house.start(), -1);
        house.program();
        answers.due("start()", house.start(), 0);
    }

    private static void begins(Answers answers) {
        SessionHouse house = answers.started("proc f(){}proc main(){x=1;y=2;spawn f();}");
        int[] due = {0, 0, 1, 1, 6, 0, 0, 0, 0, 0};
        for (int what = 0; what < due.length; what++) {
            answers.due("count(" + what + ")", house.count(what), due[what]);
        }
        answers.due("process(0, 0, 0)", house.process(0, 0, 0), 1);
        answers.due("run(0)", house.run(0), 0);
    }

    private static void againAndAgain(Answers answers) {
        SessionHouse house = answers.loaded("type S=!int S;proc f(c:~S){become f(c);}proc g(c:S){become g(c);}"
                + "proc main(){put x;x=5;spawn c f();send c 1;become g(c);}");
        for (int i = 0; i < 3; i++) {
            answers.due("start()", house.start(), 0);
            answers.due("count(7): no outputs", house.count(7), 0);
            answers.due("output(0)", house.output(0), 0);
            answers.due("count(0): no VISITS", house.count(0), 0);
            answers.due("count(1)", house.count(1), 0);
            answers.due("count(2)", house.count(2), 1);
            answers.due("count(5)", house.count(5), 0);
            answers.due("count(6)", house.count(6), 0);
            answers.due("run(40)", house.run(40), 0);
            answers.due("output(0): x was 0 at first", house.output(0), 0);
            answers.due("count(6)", house.count(6), 1);
            answers.due("count(7)", house.count(7), 1);
        }
    }

    private static void tooLittleMemory(Answers answers) {
        SessionHouse house = answers.loaded("proc main(){a=b+c+d+e+f;}");
        house.sizes(1, 10);
        answers.due("start() with just enough", house.start(), 0);
        house.run(1);
        house = answers.loaded("proc main(){a=b+c+d+e+f+g;}");
        house.sizes(1, 10);
        answers.due("start() with a cell too little", house.start(), 4);
        answers.due("run(5)", house.run(5), 4);
        answers.due("run(20001)", house.run(20001), -1);
        for (int what = 0; what <= 7; what++) {
            answers.due("count(" + what + "), nothing being made", house.count(what), 0);
        }
        answers.due("process(0, 0, 0)", house.process(0, 0, 0), -1);
        house.sizes(1, 11);
        answers.due("start() with enough", house.start(), 0);
        answers.due("run(5)", house.run(5), 1);
    }
}
