/** Promise 8: what EXPRESSIONS come out as (numbers are ints that wrap; / % cut towards 0). */
public final class NumbersTest {
    private static final int MIN = Integer.MIN_VALUE;
    private static final int MAX = Integer.MAX_VALUE;

    public static void main(String[] args) {
        Answers answers = new Answers();
        fromTheLeft(answers);
        wrap(answers);
        cutTowardsNought(answers);
        oneOrNought(answers);
        noughtIsNotSo(answers);
        noughtAtFirst(answers);
        byNought(answers);
        answers.finish("NumbersTest");
    }

    /** a is 7, b -3, m the least number and g the greatest one. */
    private static void value(Answers answers, String expression, int due) {
        SessionHouse house = answers.started("proc main(){a=7;b=-3;m=-214748364*10-8;g=214748364*10+7;put " + expression + ";}");
        house.run(5);
        answers.due(expression, house.output(0), due);
    }

    private static void fromTheLeft(Answers answers) {
        answers.about(8, "SUM: PRODUCTS with + or - between, from the left. PRODUCT: ATOMS with * / or % between, from the left");
        value(answers, "42", 42);
        value(answers, "999999999", 999999999);
        value(answers, "000000000", 0);
        value(answers, "007", 7);
        value(answers, "a", 7);
        value(answers, "10-3-2", 5);
        value(answers, "10-(3-2)", 9);
        value(answers, "10-3+2", 9);
        value(answers, "2+3*4", 14);
        value(answers, "(2+3)*4", 20);
        value(answers, "100/7/2", 7);
        value(answers, "100/7*2", 28);
        value(answers, "100%7*2", 4);
        value(answers, "100*7%9", 7);
        value(answers, "7-2*3-1", 0);
        value(answers, "1+1==2", 1);
        value(answers, "1<2+b", 0);
        value(answers, "--a", 7);
        value(answers, "---a", -7);
        value(answers, "-(-a-1)", 8);
        value(answers, "1--1", 2);
        value(answers, "-2*-3", 6);
        value(answers, "-2+3", 1);
        value(answers, "((((a))))", 7);
    }

    private static void wrap(Answers answers) {
        answers.about(8, "numbers are ints that wrap");
        value(answers, "m", MIN);
        value(answers, "g", MAX);
        value(answers, "g+1", MIN);
        value(answers, "m-1", MAX);
        value(answers, "g+g", -2);
        value(answers, "m+m", 0);
        value(answers, "g-m", -1);
        value(answers, "-m", MIN);
        value(answers, "-g", MIN + 1);
        value(answers, "m*3", MIN);
        value(answers, "m*2", 0);
        value(answers, "m*-1", MIN);
        value(answers, "g*g", 1);
        value(answers, "m/-1", MIN);
        value(answers, "m%-1", 0);
        value(answers, "999999999*999999999", 999999999 * 999999999);
        value(answers, "999999999*3", 999999999 * 3);
    }

    private static void cutTowardsNought(Answers answers) {
        answers.about(8, "/ % cut towards 0");
        value(answers, "7/2", 3);
        value(answers, "-7/2", -3);
        value(answers, "7/-2", -3);
        value(answers, "-7/-2", 3);
        value(answers, "7%2", 1);
        value(answers, "-7%2", -1);
        value(answers, "7%-2", 1);
        value(answers, "-7%-2", -1);
        value(answers, "1/2", 0);
        value(answers, "-1/2", 0);
        value(answers, "0/-5", 0);
        value(answers, "0%-5", 0);
        value(answers, "-6%3", 0);
        value(answers, "m/2", MIN / 2);
        value(answers, "m/10", -214748364);
        value(answers, "m%10", -8);
        value(answers, "g/m", 0);
        value(answers, "m/g", -1);
        value(answers, "g%m", MAX);
    }

    private static void oneOrNought(Answers answers) {
        answers.about(8, "< and == are 1 or 0");
        value(answers, "b<a", 1);
        value(answers, "a<b", 0);
        value(answers, "a<a", 0);
        value(answers, "m<g", 1);
        value(answers, "g<m", 0);
        value(answers, "m<m", 0);
        value(answers, "m<0", 1);
        value(answers, "-1<0", 1);
        value(answers, "a==7", 1);
        value(answers, "a==b", 0);
        value(answers, "m==-m", 1);
        value(answers, "m==g+1", 1);
        value(answers, "m==g", 0);
        value(answers, "(1<2)+(3==3)*2", 3);
        value(answers, "(m<g)*5", 5);
    }

    private static void noughtIsNotSo(Answers answers) {
        answers.about(8, "if and while: 0 is not so");
        String[] so = {"1", "-1", "2", "g+1", "g", "1<2", "x==0"};
        for (String number : so) {
            SessionHouse house = answers.started("proc main(){g=214748364*10+7;if " + number + "{put 1;}else{put 2;}while "
                    + number + "{put 3;become main2();}}proc main2(){}");
            house.run(20);
            answers.puts(house, 1, 3);
        }
        String[] notSo = {"0", "-0", "x", "1-1", "2<1", "g*2+2", "1/2"};
        for (String number : notSo) {
            SessionHouse house = answers.started("proc main(){g=214748364*10+7;if " + number + "{put 1;}else{put 2;}while "
                    + number + "{put 3;}}");
            answers.due("run(20) of " + number, house.run(20), 1);
            answers.puts(house, 2);
        }
    }

    private static void noughtAtFirst(Answers answers) {
        answers.about(8, "Each process has numbers by NAMES, 0 at first");
        value(answers, "nothing", 0);
        value(answers, "nothing+nothing*a", 0);
        SessionHouse house = answers.started("proc f(n){put x;put n;x=9;n=8;}proc main(){x=5;n=6;spawn f(x);spawn f(n);}");
        answers.due("run(30)", house.run(30), 1);
        answers.puts(house, 0, 5, 0, 6);
    }

    private static void byNought(Answers answers) {
        answers.about(8, "3 something is divided by 0");
        String[] texts = {"1/0", "1%0", "0/0", "0%0", "m/0", "m%0", "1/(a-7)", "1/x", "0*(1/0)", "1<1/0", "1==1%0", "-(1/0)",
            "2-1/0", "1/0/0", "1/(1/2)", "1%(1<1)"};
        for (String text : texts) {
            SessionHouse house = answers.started("proc main(){a=7;m=-214748364*10-8;y=" + text + ";}");
            answers.due("run(9) of " + text, house.run(9), 3);
            answers.due("count(0)", house.count(0), 3);
            answers.due("count(1)", house.count(1), 2);
        }
    }
}
