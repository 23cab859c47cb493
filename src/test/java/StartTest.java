/** Promise 7: start. */
public final class StartTest {
    public static void main(String[] args) {
        Answers answers = new Answers();
        noProgram(answers);
        begins(answers);
        againAndAgain(answers);
        behindEveryEnd(answers);
        endsAtOnce(answers);
        endsAtOnceInPlaceOfARun(answers);
        answers.finish("StartTest");
    }

    private static void noProgram(Answers answers) {
        answers.about(7, "-1: there is no program");
        SessionHouse house = new SessionHouse();
        answers.due("start()", house.start(), -1);
        Answers.tape(house, "proc main(){}");
        answers.due("start() ahead of program()", house.start(), -1);
        answers.due("run(1): nothing was begun", house.run(1), -1);
        house.program();
        answers.due("start()", house.start(), 0);
        Answers.readBy(house, "proc main(){");
        answers.due("start() behind a WRONG one", house.start(), -1);
        answers.due("run(1)", house.run(1), -1);
        Answers.readBy(house, "proc main(){send c 1;}");
        answers.due("start() behind a BAD one", house.start(), -1);
        answers.due("run(1)", house.run(1), -1);
    }

    private static void begins(Answers answers) {
        answers.about(7, "A run begins (no outputs, no VISITS). Answers 0");
        SessionHouse house = answers.started("proc f(){}proc main(){x=1;y=2;spawn f();}");
        answers.counts(house, 0, 0, 1, 1, 6, 0, 0, 0, 0, 0);
        answers.due("process(0, 0, 0)", house.process(0, 0, 0), 1);
        answers.due("process(0, 2, 0)", house.process(0, 2, 0), 0);
        answers.due("output(0)", house.output(0), 0);
        answers.due("run(0)", house.run(0), 0);
    }

    private static void againAndAgain(Answers answers) {
        answers.about(7, "A run begins (no outputs, no VISITS)");
        SessionHouse house = answers.loaded("type S=!int S;proc f(c:~S){become f(c);}proc g(c:S){become g(c);}"
                + "proc main(){put x;x=5;spawn c f();send c 1;become g(c);}");
        for (int i = 0; i < 3; i++) {
            answers.due("start()", house.start(), 0);
            answers.counts(house, 0, 0, 1, 1, 6, 0, 0, 0);
            answers.due("output(0)", house.output(0), 0);
            answers.due("process(0, 3, 0): x is 0 again", house.process(0, 3, 0), 0);
            answers.due("process(1, 0, 0)", house.process(1, 0, 0), -1);
            answers.due("run(40)", house.run(40), 0);
            answers.due("output(0): x was 0 at first", house.output(0), 0);
            answers.due("count(6)", house.count(6), 1);
            answers.due("count(7)", house.count(7), 1);
        }
    }

    private static void behindEveryEnd(Answers answers) {
        answers.about(7, "A run begins. Answers 0");
        String[] texts = {"proc main(){put 5;}", "proc main(){put 5;get x;}", "proc main(){put 5;x=1/0;}",
            "proc main(){put 5;while 1{spawn main();}}"};
        int[] ends = {1, 2, 3, 4};
        for (int i = 0; i < texts.length; i++) {
            SessionHouse house = answers.loaded(texts[i]);
            for (int times = 0; times < 2; times++) {
                answers.due("start() of " + texts[i], house.start(), 0);
                answers.due("run(0)", house.run(0), 0);
                answers.due("count(0)", house.count(0), 0);
                answers.due("count(7)", house.count(7), 0);
                answers.due("run(20000) of " + texts[i], Answers.runOn(house, 3), ends[i]);
            }
        }
    }

    private static void endsAtOnce(Answers answers) {
        answers.about(7, "4: it ends so at once");
        SessionHouse house = answers.loaded("proc main(){a=b+c+d+e+f;}");
        house.sizes(1, 10);
        answers.due("start() with ten cells for ten", house.start(), 0);
        answers.due("count(4)", house.count(4), 10);
        house = answers.loaded("proc main(){a=b+c+d+e+f+g;}");
        house.sizes(1, 10);
        answers.due("start() with ten cells for eleven", house.start(), 4);
        answers.due("run(0)", house.run(0), 4);
        answers.due("run(5)", house.run(5), 4);
        answers.due("run(20001)", house.run(20001), -1);
        answers.counts(house, 0, 0, 0, 0, 0, 0, 0, 0);
        answers.due("process(0, 0, 0)", house.process(0, 0, 0), -1);
        house.sizes(1, 11);
        answers.due("run(5): that is for the next start()", house.run(5), 4);
        answers.due("start() with enough", house.start(), 0);
        answers.due("run(5)", house.run(5), 1);
    }

    private static void endsAtOnceInPlaceOfARun(Answers answers) {
        answers.about(7, "4: it ends so at once");
        SessionHouse house = answers.started("proc main(){put a+b+c+d+e+f+g;while 1{}}");
        house.input(1, 2, 3);
        house.run(9);
        answers.due("count(7)", house.count(7), 1);
        house.sizes(1, 10);
        answers.due("start()", house.start(), 4);
        answers.counts(house, 0, 0, 0, 0, 0, 0, 0, 0, 3);
        answers.due("output(0): no outputs", house.output(0), 0);
    }
}
