/** Promise 12: types (2 TYPES: DUAL and EQUAL). */
public final class TypesTest {
    private static final String MAIN = "proc main(){}";

    public static void main(String[] args) {
        Answers answers = new Answers();
        noneSuch(answers);
        plain(answers);
        names(answers);
        endless(answers);
        labels(answers);
        inParentheses(answers);
        manyAtOnce(answers);
        firstAndLastType(answers);
        noProgramNoTypes(answers);
        endIsItsOwnDual(answers);
        farAway(answers);
        answers.finish("TypesTest");
    }

    private static void noneSuch(Answers answers) {
        answers.about(12, "-1: there are no such types, or no program");
        SessionHouse house = answers.loaded("type A=end;type B=!int end;" + MAIN);
        int[][] wrong = {{-1, 0, 0}, {0, -1, 0}, {2, 0, 0}, {0, 2, 1}, {0, 0, 2}, {0, 0, -1},
            {Integer.MAX_VALUE, 0, 0}, {0, Integer.MIN_VALUE, 1}, {1, 1, Integer.MAX_VALUE}};
        for (int[] w : wrong) {
            answers.due("types(" + w[0] + ", " + w[1] + ", " + w[2] + ")", house.types(w[0], w[1], w[2]), -1);
        }
        answers.due("types(1, 1, 0)", house.types(1, 1, 0), 1);
        answers.due("types(0, 0, 0) without types", answers.loaded(MAIN).types(0, 0, 0), -1);
    }

    /** Whether A and B of the text are EQUAL, and DUAL, both ways round. */
    private static void pair(Answers answers, String text, int equal, int dual) {
        SessionHouse house = answers.loaded(text + MAIN);
        answers.due("EQUAL in " + text, house.types(0, 1, 0), equal);
        answers.due("EQUAL the other way in " + text, house.types(1, 0, 0), equal);
        answers.due("DUAL in " + text, house.types(0, 1, 1), dual);
        answers.due("DUAL the other way in " + text, house.types(1, 0, 1), dual);
        answers.due("EQUAL to itself in " + text, house.types(0, 0, 0), 1);
        answers.due("EQUAL in " + text + ", asked again", house.types(0, 1, 0), equal);
    }

    private static void plain(Answers answers) {
        answers.about(12, "the types named by the i-th and the j-th type of the text are EQUAL (sign 0), or the one DUAL to the other (1)");
        pair(answers, "type A=end;type B=end;", 1, 1);
        pair(answers, "type A=!int end;type B=!int end;", 1, 0);
        pair(answers, "type A=!int end;type B=?int end;", 0, 1);
        pair(answers, "type A=!int end;type B=end;", 0, 0);
        pair(answers, "type A=!int !int end;type B=!int end;", 0, 0);
        pair(answers, "type A=!int ?int end;type B=?int !int end;", 0, 1);
        pair(answers, "type A=!int ?int end;type B=?int ?int end;", 0, 0);
        pair(answers, "type A=!int end;type B=!(end)end;", 0, 0);
        pair(answers, "type A=+{a end};type B=&{a end};", 0, 1);
        pair(answers, "type A=+{a !int end};type B=&{a !int end};", 0, 0);
        pair(answers, "type A=+{a end};type B=!int end;", 0, 0);
    }

    private static void names(Answers answers) {
        answers.about(12, "A NAME stands for its type's TYPE, ~ NAME for what is DUAL to it");
        pair(answers, "type A=C;type B=!int end;type C=D;type D=!int end;", 1, 0);
        pair(answers, "type A=~C;type B=!int end;type C=!int end;", 0, 1);
        pair(answers, "type A=~C;type B=!int end;type C=~D;type D=!int end;", 1, 0);
        pair(answers, "type A=!int ~C;type B=?int C;type C=!int end;", 0, 1);
        pair(answers, "type A=~C;type B=+{a ?int D};type C=&{a !int ~D};type D=?int end;", 1, 0);
        pair(answers, "type A=B;type B=~C;type C=end;", 1, 1);
    }

    private static void endless(Answers answers) {
        answers.about(12, "EQUAL, however far one goes on");
        pair(answers, "type A=!int A;type B=!int !int B;", 1, 0);
        pair(answers, "type A=!int A;type B=?int !int ~B;", 0, 0);
        pair(answers, "type A=!int A;type B=?int B;", 0, 1);
        pair(answers, "type A=!int ~A;type B=!int ?int B;", 1, 0);
        pair(answers, "type A=!int ~A;type B=?int ~B;", 0, 1);
        pair(answers, "type A=!int !int !int A;type B=!int !int !int !int !int B;", 1, 0);
        pair(answers, "type A=!int !int ?int A;type B=!int !int !int ?int B;", 0, 0);
        pair(answers, "type A=!int A;type B=!int !int !int !int end;", 0, 0);
        pair(answers, "type A=+{m !int A;q end};type B=+{q end;m !int +{q end;m !int B}};", 1, 0);
        pair(answers, "type A=+{m !int A;q end};type B=+{q end;m !int +{q !int end;m !int B}};", 0, 0);
    }

    private static void labels(Answers answers) {
        answers.about(12, "have the same LABELS (in any order)");
        pair(answers, "type A=+{a end;b !int end};type B=+{b !int end;a end};", 1, 0);
        pair(answers, "type A=+{a end;b !int end};type B=&{b ?int end;a end};", 0, 1);
        pair(answers, "type A=+{a end;b end};type B=+{a end};", 0, 0);
        pair(answers, "type A=+{a end;b end};type B=+{a end;c end};", 0, 0);
        pair(answers, "type A=+{a end;b !int end};type B=+{a !int end;b end};", 0, 0);
    }

    /** What stands in ( ) stays as it is in what is DUAL. */
    private static void inParentheses(Answers answers) {
        answers.about(12, "the other way about in all that follows (but not in ( ) )");
        pair(answers, "type A=!(!int end)end;type B=?(!int end)end;", 0, 1);
        pair(answers, "type A=!(!int end)end;type B=?(?int end)end;", 0, 0);
        pair(answers, "type A=!(C)C;type B=?(C)~C;type C=!int end;", 0, 1);
        pair(answers, "type A=!(C)C;type B=?(~C)~C;type C=!int end;", 0, 0);
        pair(answers, "type A=!(~C)end;type B=!(?int end)end;type C=!int end;", 1, 0);
        pair(answers, "type A=!(A)end;type B=!(!(B)end)end;", 1, 0);
        pair(answers, "type A=!(A)end;type B=?(A)end;", 0, 1);
        pair(answers, "type A=!(A)end;type B=?(B)end;", 0, 0);
        pair(answers, "type A=!(~A)A;type B=?(B)B;", 0, 1);
        pair(answers, "type A=!(end)end;type B=!int end;", 0, 0);
    }

    /** An answer 0 in between spoils no later one. */
    private static void manyAtOnce(Answers answers) {
        answers.about(12, "Whether the types are EQUAL or DUAL: 1 or 0");
        SessionHouse house = answers.loaded("type A=!int B;type B=?int A;type C=~B;type D=?int ?int D;"
                + "type E=!int ?int E;type F=+{a F;b A};type G=+{b E;a +{a G;b C}};" + MAIN);
        int[][] due = {{0, 2, 0, 1}, {0, 3, 0, 0}, {0, 1, 1, 1}, {5, 6, 0, 1}, {5, 6, 1, 0}, {0, 4, 0, 1}, {3, 3, 1, 0},
            {1, 4, 1, 1}, {5, 6, 0, 1}, {2, 4, 0, 1}, {3, 0, 1, 0}};
        for (int[] d : due) {
            answers.due("types(" + d[0] + ", " + d[1] + ", " + d[2] + ")", house.types(d[0], d[1], d[2]), d[3]);
        }
    }

    private static void firstAndLastType(Answers answers) {
        answers.about(12, "-1: there are no such types");
        StringBuilder text = new StringBuilder();
        for (int many = 0; many <= 4; many++) {
            SessionHouse house = answers.loaded(MAIN + text);
            for (int i = -1; i <= many; i++) {
                for (int j = -1; j <= many; j++) {
                    boolean there = i >= 0 && j >= 0 && i < many && j < many;
                    answers.due("types(" + i + ", " + j + ", 0) of " + many, house.types(i, j, 0), !there ? -1 : i == j ? 1 : 0);
                    answers.due("types(" + i + ", " + j + ", 1) of " + many, house.types(i, j, 1), there ? 0 : -1);
                    answers.due("types(" + i + ", " + j + ", 2) of " + many, house.types(i, j, 2), -1);
                    answers.due("types(" + i + ", " + j + ", -1) of " + many, house.types(i, j, -1), -1);
                }
            }
            text.append("type A").append(many).append('=').append("!int ".repeat(many + 1)).append("end;");
        }
    }

    private static void noProgramNoTypes(Answers answers) {
        answers.about(12, "-1: no program");
        SessionHouse house = new SessionHouse();
        answers.due("types(0, 0, 0) of a new object", house.types(0, 0, 0), -1);
        String good = "type A=end;" + MAIN;
        Answers.tape(house, good);
        answers.due("types(0, 0, 0) ahead of program()", house.types(0, 0, 0), -1);
        house.program();
        answers.due("types(0, 0, 0) without a run", house.types(0, 0, 0), 1);
        house.start();
        answers.due("types(0, 0, 0) in a run", house.types(0, 0, 0), 1);
        house.run(9);
        answers.due("types(0, 0, 0) behind a run", house.types(0, 0, 0), 1);
        String[] texts = {"type A=end;", "type A=end;proc main(){put c", "type A=end;proc main(){send c 1;}", ""};
        for (String text : texts) {
            Answers.readBy(house, good);
            Answers.readBy(house, text);
            answers.due("types(0, 0, 0) behind " + text, house.types(0, 0, 0), -1);
        }
    }

    private static void endIsItsOwnDual(Answers answers) {
        answers.about(12, "DUAL: ! and ?, + and & the other way about");
        pair(answers, "type A=end;type B=~A;", 1, 1);
        pair(answers, "type A=!(end)end;type B=!(C)C;type C=~D;type D=end;", 1, 0);
        pair(answers, "type A=+{a end;b end};type B=&{b C;a ~C};type C=end;", 0, 1);
        pair(answers, "type A=!int end;type B=~A;", 0, 1);
        pair(answers, "type A=!int A;type B=~A;", 0, 1);
        pair(answers, "type A=!int ~A;type B=~A;", 0, 1);
    }

    /** The difference stands behind some hundred messages, or there is none. */
    private static void farAway(Answers answers) {
        answers.about(12, "what stands in their ( ), behind them, and by each LABEL is EQUAL, however far one goes on");
        String said = "!int ".repeat(200);
        String heard = "?int ".repeat(200);
        pair(answers, "type A=" + said + "end;type B=" + said + "end;", 1, 0);
        pair(answers, "type A=" + said + "end;type B=" + said + "!int end;", 0, 0);
        pair(answers, "type A=" + said + "?int end;type B=" + said + "!int end;", 0, 0);
        pair(answers, "type A=" + said + "?int end;type B=" + heard + "!int end;", 0, 1);
        pair(answers, "type A=" + said + "A;type B=" + "!int ".repeat(199) + "B;", 1, 0);
        pair(answers, "type A=" + said + "A;type B=" + "!int ".repeat(199) + "?int B;", 0, 0);
        String deep = "!(".repeat(40);
        String back = ")end".repeat(40);
        pair(answers, "type A=" + deep + "end" + back + ";type B=" + deep + "end" + back + ";", 1, 0);
        pair(answers, "type A=" + deep + "end" + back + ";type B=" + deep + "!int end" + back + ";", 0, 0);
        pair(answers, "type A=" + deep + "C" + back + ";type B=?" + deep.substring(1) + "~C" + back + ";type C=!int end;", 0, 0);
        pair(answers, "type A=" + deep + "C" + back + ";type B=?" + deep.substring(1) + "C" + back + ";type C=!int end;", 0, 1);
    }
}
