/** Promise 12: types (2 TYPES: DUAL and EQUAL). */
public final class TypesTest {
    private static final String MAIN = "proc main(){}";

    public static void main(String[] args) {
        Answers answers = new Answers();
        noneSuch(answers);
        plain(answers);
        names(answers);
        endless(answers);
        labels(answers);
        inParentheses(answers);
        manyAtOnce(answers);
        answers.finish("TypesTest");
    }

    private static void noneSuch(Answers answers) {
        SessionHouse house = answers.loaded("type A=end;type B=!int end;" + MAIN);
        int[][] wrong = {{-1, 0, 0}, {0, -1, 0}, {2, 0, 0}, {0, 2, 1}, {0, 0, 2}, {0, 0, -1},
            {Integer.MAX_VALUE, 0, 0}, {0, Integer.MIN_VALUE, 1}, {1, 1, Integer.MAX_VALUE}};
        for (int[] w : wrong) {
            answers.due("types(" + w[0] + ", " + w[1] + ", " + w[2] + ")", house.types(w[0], w[1], w[2]), -1);
        }
        answers.due("types(1, 1, 0)", house.types(1, 1, 0), 1);
        answers.due("types(0, 0, 0) without types", answers.loaded(MAIN).types(0, 0, 0), -1);
    }

    /** Whether A and B of the text are EQUAL, and DUAL, both ways round. */
    private static void pair(Answers answers, String text, int equal, int dual) {
        SessionHouse house = answers.loaded(text + MAIN);
        answers.due("EQUAL in " + text, house.types(0, 1, 0), equal);
        answers.due("EQUAL the other way in " + text, house.types(1, 0, 0), equal);
        answers.due("DUAL in " + text, house.types(0, 1, 1), dual);
        answers.due("DUAL the other way in " + text, house.types(1, 0, 1), dual);
        answers.due("EQUAL to itself in " + text, house.types(0, 0, 0), 1);
        answers.due("EQUAL in " + text + ", asked again", house.types(0, 1, 0), equal);
    }

    private static void plain(Answers answers) {
        pair(answers, "type A=end;type B=end;", 1, 1);
        pair(answers, "type A=!int end;type B=!int end;", 1, 0);
        pair(answers, "type A=!int end;type B=?int end;", 0, 1);
        pair(answers, "type A=!int end;type B=end;", 0, 0);
        pair(answers, "type A=!int !int end;type B=!int end;", 0, 0);
        pair(answers, "type A=!int ?int end;type B=?int !int end;", 0, 1);
        pair(answers, "type A=!int ?int end;type B=?int ?int end;", 0, 0);
        pair(answers, "type A=!int end;type B=!(end)end;", 0, 0);
        pair(answers, "type A=+{a end};type B=&{a end};", 0, 1);
        pair(answers, "type A=+{a !int end};type B=&{a !int end};", 0, 0);
        pair(answers, "type A=+{a end};type B=!int end;", 0, 0);
    }

    private static void names(Answers answers) {
        pair(answers, "type A=C;type B=!int end;type C=D;type D=!int end;", 1, 0);
        pair(answers, "type A=~C;type B=!int end;type C=!int end;", 0, 1);
        pair(answers, "type A=~C;type B=!int end;type C=~D;type D=!int end;", 1, 0);
        pair(answers, "type A=!int ~C;type B=?int C;type C=!int end;", 0, 1);
        pair(answers, "type A=~C;type B=+{a ?int D};type C=&{a !int ~D};type D=?int end;", 1, 0);
        pair(answers, "type A=B;type B=~C;type C=end;", 1, 1);
    }

    private static void endless(Answers answers) {
        pair(answers, "type A=!int A;type B=!int !int B;", 1, 0);
        pair(answers, "type A=!int A;type B=?int !int ~B;", 0, 0);
        pair(answers, "type A=!int A;type B=?int B;", 0, 1);
        pair(answers, "type A=!int ~A;type B=!int ?int B;", 1, 0);
        pair(answers, "type A=!int ~A;type B=?int ~B;", 0, 1);
        pair(answers, "type A=!int !int !int A;type B=!int !int !int !int !int B;", 1, 0);
        pair(answers, "type A=!int !int ?int A;type B=!int !int !int ?int B;", 0, 0);
        pair(answers, "type A=!int A;type B=!int !int !int !int end;", 0, 0);
        pair(answers, "type A=+{m !int A;q end};type B=+{q end;m !int +{q end;m !int B}};", 1, 0);
        pair(answers, "type A=+{m !int A;q end};type B=+{q end;m !int +{q !int end;m !int B}};", 0, 0);
    }

    private static void labels(Answers answers) {
        pair(answers, "type A=+{a end;b !int end};type B=+{b !int end;a end};", 1, 0);
        pair(answers, "type A=+{a end;b !int end};type B=&{b ?int end;a end};", 0, 1);
        pair(answers, "type A=+{a end;b end};type B=+{a end};", 0, 0);
        pair(answers, "type A=+{a end;b end};type B=+{a end;c end};", 0, 0);
        pair(answers, "type A=+{a end;b !int end};type B=+{a !int end;b end};", 0, 0);
    }

    /** What stands in ( ) stays as it is in what is DUAL. */
    private static void inParentheses(Answers answers) {
        pair(answers, "type A=!(!int end)end;type B=?(!int end)end;", 0, 1);
        pair(answers, "type A=!(!int end)end;type B=?(?int end)end;", 0, 0);
        pair(answers, "type A=!(C)C;type B=?(C)~C;type C=!int end;", 0, 1);
        pair(answers, "type A=!(C)C;type B=?(~C)~C;type C=!int end;", 0, 0);
        pair(answers, "type A=!(~C)end;type B=!(?int end)end;type C=!int end;", 1, 0);
        pair(answers, "type A=!(A)end;type B=!(!(B)end)end;", 1, 0);
        pair(answers, "type A=!(A)end;type B=?(A)end;", 0, 1);
        pair(answers, "type A=!(A)end;type B=?(B)end;", 0, 0);
        pair(answers, "type A=!(~A)A;type B=?(B)B;", 0, 1);
        pair(answers, "type A=!(end)end;type B=!int end;", 0, 0);
    }

    /** An answer 0 in between spoils no later one. */
    private static void manyAtOnce(Answers answers) {
        SessionHouse house = answers.loaded("type A=!int B;type B=?int A;type C=~B;type D=?int ?int D;"
                + "type E=!int ?int E;type F=+{a F;b A};type G=+{b E;a +{a G;b C}};" + MAIN);
        int[][] due = {{0, 2, 0, 1}, {0, 3, 0, 0}, {0, 1, 1, 1}, {5, 6, 0, 1}, {5, 6, 1, 0}, {0, 4, 0, 1}, {3, 3, 1, 0},
            {1, 4, 1, 1}, {5, 6, 0, 1}, {2, 4, 0, 1}, {3, 0, 1, 0}};
        for (int[] d : due) {
            answers.due("types(" + d[0] + ", " + d[1] + ", " + d[2] + ")", house.types(d[0], d[1], d[2]), d[3]);
        }
    }
}
