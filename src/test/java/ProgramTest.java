/** Promise 4: what program() answers and changes, besides where a text is WRONG or BAD. */
public final class ProgramTest {
    private static final String GOOD = "type A=end;proc main(){put 7;spawn f();}proc f(){while 1{}}";

    public static void main(String[] args) {
        Answers answers = new Answers();
        answersProcs(answers);
        endsTheRun(answers);
        failedOnes(answers, "proc main(){", -1 - 12);
        failedOnes(answers, "proc main(){send c 1;}", -10000 - 12);
        afterFailure(answers);
        fullTape(answers);
        again(answers, "type A=", "!(A)", "end;proc main(){}");
        again(answers, "proc main(){while x<1{x=x+1;}", "y=2;", "}");
        again(answers, "type A=+{z end", ";@ A", "};proc main(){}");
        again(answers, "proc main(){", "@=@+1;", "}");
        again(answers, "proc f(z", ",@", "){}proc main(){}");
        again(answers, "proc main(){", "if 1{}else{}", "}");
        again(answers, "proc f(x,y){}proc main(){", "spawn f(1,2);", "}");
        again(answers, "", "proc @(){}", "proc main(){}");
        deepAfterDeep(answers);
        answers.finish("ProgramTest");
    }

    private static void answersProcs(Answers answers) {
        answers.good("proc main(){}", 1);
        answers.good("proc a(){}proc main(){}proc b(){}", 3);
        answers.good(GOOD, 2);
    }

    private static void nothingRuns(Answers answers, SessionHouse house) {
        for (int what = 0; what <= 7; what++) {
            answers.due("count(" + what + ")", house.count(what), 0);
        }
        answers.due("count(9)", house.count(9), 0);
        answers.due("run(1)", house.run(1), -1);
        answers.due("output(0)", house.output(0), 0);
        answers.due("process(0, 0, 0)", house.process(0, 0, 0), -1);
    }

    private static void endsTheRun(Answers answers) {
        SessionHouse house = answers.started(GOOD);
        house.input(1, 2, 3);
        house.run(3);
        answers.due("count(2) in the run", house.count(2), 2);
        Answers.tape(house, "proc main(){put 8;}");
        answers.due("program()", house.program(), 1);
        nothingRuns(answers, house);
        answers.due("count(8): the INPUT stays", house.count(8), 3);
        answers.due("types(0, 0, 0): there is no type any more", house.types(0, 0, 0), -1);
        answers.due("start()", house.start(), 0);
        answers.due("run(10)", house.run(10), 1);
        answers.due("output(0)", house.output(0), 8);
    }

    private static void failedOnes(Answers answers, String text, int due) {
        SessionHouse house = answers.started(GOOD);
        house.run(5);
        Answers.tape(house, text);
        answers.due("count(9)", house.count(9), text.length());
        answers.due("program() of " + text, house.program(), due);
        nothingRuns(answers, house);
        answers.due("start()", house.start(), -1);
        answers.due("types(0, 0, 0)", house.types(0, 0, 0), -1);
        answers.due("program() of the TAPE that is empty now", house.program(), -1);
    }

    /** What a text left behind that failed is not seen by the next one. */
    private static void afterFailure(Answers answers) {
        SessionHouse house = new SessionHouse();
        Answers.tape(house, "type A=!int end;type B=?int end;proc f(c:A){send c 1;}proc main(){{");
        answers.due("program()", house.program(), -1 - 66);
        Answers.tape(house, "type B=end;proc main(){become f();}");
        answers.due("program()", house.program(), -1 - 30);
        Answers.tape(house, "type A=B;type B=end;proc f(x){}proc main(){become f(1);}");
        answers.due("program()", house.program(), 2);
        answers.due("types(0, 1, 0)", house.types(0, 1, 0), 1);
        answers.due("types(0, 2, 0)", house.types(0, 2, 0), -1);
    }

    private static void fullTape(Answers answers) {
        StringBuilder text = new StringBuilder("proc main(){");
        for (int i = 0; text.length() < 2990; i++) {
            text.append((char) ('a' + i % 26)).append(i % 10).append("=1;");
        }
        while (text.length() < 2999) {
            text.append(' ');
        }
        text.append('}');
        answers.due("program() of 3000 bytes", Answers.read(text.toString()), 1);
        text.setCharAt(2999, ' ');
        answers.due("program() of 3000 bytes without }", Answers.read(text.toString()), -3001);
    }

    /** Three full TAPES on one object: what the earlier ones took is free again. */
    private static void again(Answers answers, String first, String middle, String last) {
        StringBuilder text = new StringBuilder(first);
        for (int i = 0; text.length() + middle.length() + last.length() + 4 <= 3000; i++) {
            String name = "" + (char) ('A' + i % 26) + (char) ('a' + i / 26 % 26) + (i < 676 ? "" : "0");
            text.append(middle.replace("@", name));
        }
        text.append(last);
        SessionHouse house = new SessionHouse();
        int due = Answers.read(text.toString());
        answers.due("program() of " + text.substring(0, 40), due >= 1 ? 1 : 0, 1);
        for (int i = 0; i < 3; i++) {
            Answers.tape(house, text.toString());
            answers.due("program() of " + text.substring(0, 40) + ", time " + i, house.program(), due);
        }
        house.sizes(1, 10000);
        answers.due("start()", house.start(), 0);
        SessionHouse other = answers.loaded(text.toString());
        other.sizes(1, 10000);
        other.start();
        answers.due("run(5)", house.run(5), other.run(5));
        answers.due("run(20000)", house.run(20000), other.run(20000));
        for (int what = 0; what <= 4; what++) {
            answers.due("count(" + what + ")", house.count(what), other.count(what));
        }
        answers.due("types(0, 0, 0)", house.types(0, 0, 0), text.charAt(0) == 't' ? 1 : -1);
        answers.due("types(0, 0, 1)", house.types(0, 0, 1), text.charAt(0) == 't' ? 0 : -1);
    }

    private static void deepAfterDeep(Answers answers) {
        SessionHouse house = new SessionHouse();
        Answers.tape(house, "proc main(){" + "while 1{".repeat(39) + "@");
        answers.due("program()", house.program(), -1 - 12 - 8 * 39);
        Answers.tape(house, "proc main(){" + "while 1{".repeat(39) + "}".repeat(40));
        answers.due("program()", house.program(), 1);
    }
}
