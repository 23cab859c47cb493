/** Promise 9: output, and what EXPRESSIONS come out as. */
public final class OutputTest {
    public static void main(String[] args) {
        Answers answers = new Answers();
        fiveHundred(answers);
        expressions(answers);
        answers.finish("OutputTest");
    }

    private static void fiveHundred(Answers answers) {
        SessionHouse house = answers.started("proc main(){while 1{x=x+3;put x;}}");
        answers.due("output(0)", house.output(0), 0);
        house.run(3);
        answers.due("output(0)", house.output(0), 3);
        answers.due("output(1), which is not there yet", house.output(1), 0);
        answers.due("output(-1)", house.output(-1), 0);
        house.run(3 * 499 - 1);
        answers.due("count(7)", house.count(7), 499);
        answers.due("output(499)", house.output(499), 0);
        house.run(4);
        answers.due("count(7)", house.count(7), 501);
        answers.due("output(499), the last one that is kept", house.output(499), 1500);
        answers.due("output(500)", house.output(500), 0);
        answers.due("output(0)", house.output(0), 3);
        house.run(20000);
        answers.due("output(0)", house.output(0), 3);
        answers.due("output(499)", house.output(499), 1500);
        answers.due("output(greatest)", house.output(Integer.MAX_VALUE), 0);
        answers.due("output(least)", house.output(Integer.MIN_VALUE), 0);
        house.start();
        answers.due("output(0) of the next run", house.output(0), 0);
    }

    private static void value(Answers answers, String expression, int due) {
        SessionHouse house = answers.started("proc main(){a=7;b=-3;m=-214748364*10-8;put " + expression + ";}");
        house.run(5);
        answers.due(expression, house.output(0), due);
    }

    private static void expressions(Answers answers) {
        value(answers, "42", 42);
        value(answers, "999999999", 999999999);
        value(answers, "007", 7);
        value(answers, "a", 7);
        value(answers, "nothing", 0);
        value(answers, "10-3-2", 5);
        value(answers, "10-(3-2)", 9);
        value(answers, "2+3*4", 14);
        value(answers, "(2+3)*4", 20);
        value(answers, "100/7/2", 7);
        value(answers, "100/7*2", 28);
        value(answers, "100%7*2", 4);
        value(answers, "a/b", -2);
        value(answers, "-a/2", -3);
        value(answers, "a%b", 1);
        value(answers, "-a%3", -1);
        value(answers, "m/-1", Integer.MIN_VALUE);
        value(answers, "m%-1", 0);
        value(answers, "-m", Integer.MIN_VALUE);
        value(answers, "m-1", Integer.MAX_VALUE);
        value(answers, "m*3", Integer.MIN_VALUE);
        value(answers, "999999999*999999999", 999999999 * 999999999);
        value(answers, "a*b-b*a", 0);
        value(answers, "b<a", 1);
        value(answers, "a<b", 0);
        value(answers, "a<a", 0);
        value(answers, "m<0", 1);
        value(answers, "a==7", 1);
        value(answers, "a==b", 0);
        value(answers, "1+1==2", 1);
        value(answers, "1<2+b", 0);
        value(answers, "(1<2)+(3==3)*2", 3);
        value(answers, "--a", 7);
        value(answers, "-(-a-1)", 8);
        value(answers, "1--1", 2);
        value(answers, "-2*-3", 6);
        value(answers, "((((a))))", 7);
    }
}
