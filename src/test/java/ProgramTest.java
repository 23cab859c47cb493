/** Promise 4: what program() answers and changes, besides where a text is WRONG or BAD. */
public final class ProgramTest {
    private static final String GOOD = "type A=end;proc main(){put 7;spawn f();}proc f(){while 1{}}";
    private static final String WRONG = "proc main(){";
    private static final String BAD = "proc main(){send c 1;}";

    public static void main(String[] args) {
        Answers answers = new Answers();
        tapeIsEmptyThen(answers);
        howManyProcs(answers);
        placesOfWrong(answers);
        placesOfBad(answers);
        wrongAheadOfBad(answers);
        thenThereIsNoProgram(answers);
        noRunIsUnderWay(answers);
        nothingOfTheEarlierText(answers);
        nothingOfTheEarlierStatements(answers);
        answers.finish("ProgramTest");
    }

    private static void tapeIsEmptyThen(Answers answers) {
        answers.about(4, "The TAPE (which is empty then) is the program");
        String[] texts = {GOOD, WRONG, BAD, ""};
        for (String text : texts) {
            SessionHouse house = new SessionHouse();
            Answers.tape(house, text);
            answers.due("count(9)", house.count(9), text.length());
            house.program();
            answers.due("count(9) behind program()", house.count(9), 0);
            answers.due("end(1)", house.end(1), -1);
            answers.due("program() of the TAPE that is empty now", house.program(), -1);
            answers.due("start(): that was no program", house.start(), -1);
        }
    }

    private static void howManyProcs(Answers answers) {
        answers.about(4, "Answers how many procs");
        answers.good("proc main(){}", 1);
        answers.good("type main=end;proc main(){}type B=end;", 1);
        answers.good("proc a(){}proc main(){}proc b(){}", 3);
        answers.good(GOOD, 2);
        StringBuilder text = new StringBuilder("proc main(){}");
        int procs = 1;
        for (int i = 0; i < 52; i++) {
            text.append("proc ").append((char) (i < 26 ? 'a' + i : 'A' + i - 26)).append("(){}");
            procs++;
        }
        for (; text.length() + 11 <= 3000; procs++) {
            text.append("proc ").append(Answers.name(procs)).append("(){}");
        }
        answers.due("program() of " + procs + " procs", Answers.read(text.toString()), procs);
        answers.due("as many as that", procs > 270 ? 1 : 0, 1);
    }

    private static void placesOfWrong(Answers answers) {
        answers.about(4, "-1 less the place where it is WRONG");
        answers.due("program() of nothing", Answers.read(""), -1);
        answers.due("program() of a sign", Answers.read(";"), -1);
        answers.due("program() of a blank and a sign", Answers.read(" ;"), -2);
        answers.due("program() of a blank", Answers.read(" "), -2);
        String blanks = " ".repeat(2999);
        answers.due("program() with the last of 3000 bytes WRONG", Answers.read(blanks + ";"), -3000);
        answers.due("program() of 3000 blanks", Answers.read(blanks + " "), -3001);
        answers.due("program() of 2999 blanks", Answers.read(blanks), -3000);
    }

    private static void placesOfBad(Answers answers) {
        answers.about(4, "-10000 less the place of the first STATEMENT (or }) that is BAD");
        answers.due("program(), place 9", Answers.read("proc f(){send c 1;}proc main(){}"), -10009);
        answers.due("program(), place 20", Answers.read("proc f(c:!int end){ }proc main(){}"), -10020);
        String text = "proc main(){}proc f(c:!int end){";
        String blanks = " ".repeat(2999 - text.length());
        answers.due("program() with } as the last of 3000 bytes", Answers.read(text + blanks + "}"), -12999);
        text = "proc main(){}proc f(){";
        blanks = " ".repeat(3000 - text.length() - 10);
        answers.due("program() with send as the last STATEMENT", Answers.read(text + blanks + "send c 1;}"), -12990);
    }

    private static void wrongAheadOfBad(Answers answers) {
        answers.about(4, "Answers .. -1 less the place where it is WRONG");
        answers.wrongAt("proc f(){send c 1;}proc main(){}^)");
        answers.wrongAt("proc f(){send c 1;}proc main(){spawn ^g();}");
        answers.wrongAt("proc f(){send c 1;}type ^A=A;proc main(){}");
        answers.wrongAt("proc f(){send c 1;} ^");
    }

    private static void nothingRuns(Answers answers, SessionHouse house) {
        answers.counts(house, 0, 0, 0, 0, 0, 0, 0, 0);
        answers.due("run(0)", house.run(0), -1);
        answers.due("run(1)", house.run(1), -1);
        answers.due("output(0)", house.output(0), 0);
        answers.due("process(0, 0, 0)", house.process(0, 0, 0), -1);
        answers.due("process(0, 2, 0)", house.process(0, 2, 0), 0);
    }

    private static void thenThereIsNoProgram(Answers answers) {
        answers.about(4, "With these there is no program");
        String[] texts = {WRONG, BAD, "", "proc f(){}", "proc f(c:!int end){}proc main(){}"};
        for (String text : texts) {
            SessionHouse house = answers.started(GOOD);
            house.run(5);
            answers.due("program() of " + text + " is below 0", Answers.readBy(house, text) < 0 ? 1 : 0, 1);
            answers.due("start()", house.start(), -1);
            answers.due("types(0, 0, 0)", house.types(0, 0, 0), -1);
            nothingRuns(answers, house);
            answers.due("program() of the good text", Answers.readBy(house, GOOD), 2);
            answers.due("start()", house.start(), 0);
            answers.due("types(0, 0, 0)", house.types(0, 0, 0), 1);
        }
    }

    private static void noRunIsUnderWay(Answers answers) {
        answers.about(4, "No run is under way");
        SessionHouse house = answers.started(GOOD);
        house.input(1, 2, 3);
        house.run(3);
        answers.due("count(2) in the run", house.count(2), 2);
        answers.due("program()", Answers.readBy(house, "proc main(){put 8;}"), 1);
        nothingRuns(answers, house);
        answers.due("count(8): the INPUT stays", house.count(8), 3);
        answers.due("types(0, 0, 0): there is no type any more", house.types(0, 0, 0), -1);
        answers.due("start()", house.start(), 0);
        answers.due("run(10)", house.run(10), 1);
        answers.due("output(0)", house.output(0), 8);
        answers.due("program() behind a run that has ended", Answers.readBy(house, GOOD), 2);
        nothingRuns(answers, house);
    }

    /** What a text left behind that failed is not seen by the next one. */
    private static void nothingOfTheEarlierText(Answers answers) {
        answers.about(4, "The TAPE is the program");
        SessionHouse house = new SessionHouse();
        answers.due("program()", Answers.readBy(house,
                "type A=!int end;type B=?int end;proc f(c:A){send c 1;}proc main(){{"), -1 - 66);
        answers.due("program()", Answers.readBy(house, "type B=end;proc main(){become f();}"), -1 - 30);
        answers.due("program()", Answers.readBy(house,
                "type A=B;type B=end;proc f(x){}proc main(){become f(1);}"), 2);
        answers.due("types(0, 1, 0)", house.types(0, 1, 0), 1);
        answers.due("types(0, 2, 0)", house.types(0, 2, 0), -1);
        String deep = "proc main(){" + "while 1{".repeat(39);
        answers.due("program() that stops forty deep", Answers.readBy(house, deep + "@"), -1 - 12 - 8 * 39);
        answers.due("program() of forty in one another", Answers.readBy(house, deep + "}".repeat(40)), 1);
    }

    /** STATEMENTS, EXPRESSIONS and choices of the earlier text stood where the next one's stand. */
    private static void nothingOfTheEarlierStatements(Answers answers) {
        answers.about(4, "The TAPE is the program");
        SessionHouse house = new SessionHouse();
        String talk = "type C=&{a end;b end;d end};proc f(c:C){case c{a{}b{}d{}}}proc main(){spawn c f();pick c b;x=1+y+z;}";
        answers.due("program()", Answers.readBy(house, "proc main(){x=1+y+z;x=1+y+z;}"), 1);
        answers.due("program()", Answers.readBy(house, "proc f(c:!int end){get x;send c 1;put c;}proc main(){}"), 2);
        for (int i = 0; i < 3; i++) {
            answers.due("program()", Answers.readBy(house, talk), 2);
            house.start();
            answers.due("run(9)", house.run(9), 1);
            answers.due("count(5)", house.count(5), 0);
            answers.due("program()", Answers.readBy(house,
                    "proc main(){a=1;b=2;c=3;d=4;put c;if a{e=1;}else{e=2;}put e;while 1{}}"), 1);
            house.start();
            answers.due("run(20)", house.run(20), 0);
            answers.counts(house, 20, 20, 1, 1, 9, 0, 0, 2);
            answers.due("output(0)", house.output(0), 3);
            answers.due("output(1)", house.output(1), 1);
        }
    }
}
