/** Promise 11: process. */
public final class ProcessTest {
    private static final String TEXT = "type S=!int end;proc f(c:S,n,m){q=n-m;while 1{}send c q;}"
            + "proc main(){a=3;spawn c f(a*4,b+1);b=a;d=c1+a;while 1{}recv c a;}";

    public static void main(String[] args) {
        Answers answers = new Answers();
        eachWhat(answers);
        noneSuch(answers);
        asTheyWereMade(answers);
        namesInOrder(answers);
        numbersAndChannelsByOneName(answers);
        behindBecome(answers);
        givenAway(answers);
        firstAndLastInTheRing(answers);
        firstAndLastName(answers);
        noneBehindTheEnd(answers);
        blockedOnesDoNoActs(answers);
        channelsComeAndGo(answers);
        answers.finish("ProcessTest");
    }

    private static void eachWhat(Answers answers) {
        answers.about(11, "what = 0 which proc it runs; 1 how many channels it has; 2 ACTS that it did; 3 the number by the j-th different NAME");
        SessionHouse house = answers.started(TEXT);
        house.run(20);
        answers.due("process(0, 0, 0)", house.process(0, 0, 0), 1);
        answers.due("process(1, 0, 0)", house.process(1, 0, 0), 0);
        answers.due("process(0, 1, 0)", house.process(0, 1, 0), 1);
        answers.due("process(1, 1, 0)", house.process(1, 1, 0), 1);
        answers.due("process(0, 2, 0)", house.process(0, 2, 0), 11);
        answers.due("process(1, 2, 0)", house.process(1, 2, 0), 9);
        answers.due("count(1)", house.count(1), 20);
        int[] ofMain = {3, 0, 3, 3, 0, 0};
        for (int j = 0; j < ofMain.length; j++) {
            answers.due("process(0, 3, " + j + ")", house.process(0, 3, j), ofMain[j]);
        }
        int[] ofOther = {0, 12, 1, 11, 0};
        for (int j = 0; j < ofOther.length; j++) {
            answers.due("process(1, 3, " + j + ")", house.process(1, 3, j), ofOther[j]);
        }
    }

    private static void noneSuch(Answers answers) {
        answers.about(11, "-1 with what 0: there is none such; else 0 there");
        SessionHouse house = answers.loaded(TEXT);
        answers.due("process(0, 0, 0) ahead of a run", house.process(0, 0, 0), -1);
        answers.due("process(0, 2, 0) ahead of a run", house.process(0, 2, 0), 0);
        house.start();
        house.run(20);
        int[] ks = {-1, 2, 3, Integer.MIN_VALUE, Integer.MAX_VALUE};
        for (int k : ks) {
            answers.due("process(" + k + ", 0, 0)", house.process(k, 0, 0), -1);
            for (int what = 1; what <= 3; what++) {
                answers.due("process(" + k + ", " + what + ", 1)", house.process(k, what, 1), 0);
            }
        }
        int[] js = {-1, 7, 1000000, Integer.MIN_VALUE, Integer.MAX_VALUE};
        for (int j : js) {
            answers.due("process(0, 3, " + j + ")", house.process(0, 3, j), 0);
            answers.due("process(0, 0, " + j + ")", house.process(0, 0, j), 1);
        }
        house = answers.started("proc f(n){while 1{}}proc main(){spawn f(77);x=5;while 1{}}");
        house.run(9);
        answers.due("process(0, 3, 0)", house.process(0, 3, 0), 5);
        answers.due("process(0, 3, 1): main has one NAME", house.process(0, 3, 1), 0);
        answers.due("process(1, 3, 0)", house.process(1, 3, 0), 77);
        answers.due("process(0, 4, 0)", house.process(0, 4, 0), 0);
        answers.due("process(0, -1, 0)", house.process(0, -1, 0), 0);
    }

    private static void asTheyWereMade(Answers answers) {
        answers.about(11, "Of the k-th process in the RING (from 0, as they were made)");
        SessionHouse house = answers.started("proc f(n){while n{n=n-1;}}proc g(){while 1{}}"
                + "proc main(){spawn g();spawn f(2);spawn g();spawn f(100);spawn f(50);}");
        house.run(60);
        answers.due("count(2)", house.count(2), 4);
        int[] due = {1, 1, 0, 0, -1};
        for (int k = 0; k < due.length; k++) {
            answers.due("process(" + k + ", 0, 0)", house.process(k, 0, 0), due[k]);
        }
        answers.due("the number of f(100) is above that of f(50)",
                house.process(2, 3, 0) > house.process(3, 3, 0) ? 1 : 0, 1);
    }

    /** LABELS and procs' NAMES are none; each NAME counts where it stands first. */
    private static void namesInOrder(Answers answers) {
        answers.about(11, "PARAMETERS as they stand, then as they stand first in its BLOCK");
        SessionHouse house = answers.started("type C=&{l end};proc f(c:C,b,a){d=2;case c{l{e=3;}}while 1{l=4;b=f;}}"
                + "proc w(c:~C){pick c l;}proc main(){spawn c w();become f(c,8,9);}");
        house.run(60);
        answers.due("process(0, 0, 0)", house.process(0, 0, 0), 0);
        int[] due = {0, 0, 9, 2, 3, 4, 0, 0};
        for (int j = 0; j < due.length; j++) {
            answers.due("process(0, 3, " + j + ")", house.process(0, 3, j), due[j]);
        }
        answers.due("count(4): c, b, a, d, e, l, f", house.count(4), 11);
    }

    private static void numbersAndChannelsByOneName(Answers answers) {
        answers.about(11, "0 for those that were used as channels alone");
        SessionHouse house = answers.started("type S=!int end;proc f(c:S){send c 1;}"
                + "proc main(){c=6;spawn c f();while x<9{x=x+1;}recv c y;put c;while 1{}}");
        house.run(4);
        answers.due("process(0, 1, 0)", house.process(0, 1, 0), 1);
        answers.due("process(0, 3, 0): the number stays", house.process(0, 3, 0), 6);
        house.run(60);
        answers.due("process(0, 1, 0)", house.process(0, 1, 0), 0);
        answers.due("output(0)", house.output(0), 6);
    }

    private static void behindBecome(Answers answers) {
        answers.about(11, "0 which proc it runs; 2 ACTS that it did");
        SessionHouse house = answers.started("proc f(n){x=n;while 1{}}proc main(){x=1;y=2;become f(5);}");
        house.run(4);
        answers.due("process(0, 0, 0)", house.process(0, 0, 0), 0);
        answers.due("process(0, 2, 0): its ACTS go on", house.process(0, 2, 0), 4);
        answers.due("process(0, 3, 0)", house.process(0, 3, 0), 5);
        answers.due("process(0, 3, 1)", house.process(0, 3, 1), 5);
        answers.due("process(0, 3, 2)", house.process(0, 3, 2), 0);
        answers.due("count(3)", house.count(3), 1);
    }

    /** The channel is of the first TYPE in the text, which is told with the PARAMETER itself. */
    private static void givenAway(Answers answers) {
        answers.about(11, "1 how many channels it has");
        SessionHouse house = answers.started("proc f(c:!int end){while 1{}send c 1;}proc g(c:!(!int end)end,d:!int end){pass c d;}"
                + "proc h(c:?int end){while 1{}recv c x;}proc k(c:?(!int end)end){while 1{}take c d;send d 1;}"
                + "proc main(){spawn c h();spawn d k();spawn e h();spawn f(c);pass d e;while 1{}}");
        house.run(1);
        answers.due("process(0, 1, 0)", house.process(0, 1, 0), 1);
        house.run(40);
        answers.due("process(0, 1, 0): given away, passed and CLOSED", house.process(0, 1, 0), 0);
        for (int k = 1; k <= 4; k++) {
            answers.due("process(" + k + ", 1, 0)", house.process(k, 1, 0), 1);
        }
        answers.due("count(5)", house.count(5), 3);
        answers.due("count(6)", house.count(6), 1);
        house = answers.started("proc f(n,c:!int end){while 1{}send c n;}proc h(c:?int end,n){while 1{}recv c x;}"
                + "proc z(a,b,c,d,e,g,h,i,j){}proc main(){spawn z(1,2,3,4,5,6,7,8,9);spawn c h(1);spawn f(2,c);while 1{}}");
        house.run(40);
        for (int k = 0; k <= 2; k++) {
            answers.due("process(" + k + ", 1, 0)", house.process(k, 1, 0), k == 0 ? 0 : 1);
        }
        house = answers.started("proc f(c:!int end,n){send c n;}proc h(c:?int end){recv c x;put x;}"
                + "proc main(){spawn a h();spawn b h();spawn f(b,5);become f(a,6);}");
        answers.due("run(60)", house.run(60), 1);
        answers.due("output(0) and output(1)", house.output(0) * 10 + house.output(1), 56);
    }

    /** k below 0, the first one, the last one, and one too far, in rings of 1 to 5. */
    private static void firstAndLastInTheRing(Answers answers) {
        answers.about(11, "Of the k-th process in the RING (from 0) .. -1 with what 0: there is none such; else 0 there");
        SessionHouse house = answers.started("proc f(n){while 1{x=n;}}proc main(){x=9;spawn f(1);spawn f(2);spawn f(3);spawn f(4);"
                + "while 1{}}");
        for (int many = 1; many <= 5; many++) {
            for (int i = 0; i < 60 && house.count(2) < many; i++) {
                house.run(1);
            }
            answers.due("count(2)", house.count(2), many);
            answers.due("process(-1, 0, 0)", house.process(-1, 0, 0), -1);
            answers.due("process(0, 0, 0)", house.process(0, 0, 0), 1);
            answers.due("the last one", house.process(many - 1, 0, 0), many == 1 ? 1 : 0);
            answers.due("what the last one was told", house.process(many - 1, 3, 0), many == 1 ? 0 : many - 1);
            for (int what = 0; what <= 3; what++) {
                answers.due("one too far, what " + what, house.process(many, what, 0), what == 0 ? -1 : 0);
            }
        }
    }

    private static void firstAndLastName(Answers answers) {
        answers.about(11, "3 the number by the j-th different NAME of its proc");
        SessionHouse house = answers.started("proc f(a,b){c=3;a=a;d=4;while 1{}}proc main(){become f(1,2);}");
        house.run(9);
        int[] due = {1, 2, 3, 4};
        for (int j = 0; j < due.length; j++) {
            answers.due("process(0, 3, " + j + ")", house.process(0, 3, j), due[j]);
        }
        int[] outside = {-1, 4, 5, 100000, Integer.MIN_VALUE, Integer.MAX_VALUE};
        for (int j : outside) {
            answers.due("process(0, 3, " + j + ")", house.process(0, 3, j), 0);
        }
        house = answers.started("proc main(){while 1{}}");
        answers.due("process(0, 3, 0) without NAMES", house.process(0, 3, 0), 0);
    }

    private static void noneBehindTheEnd(Answers answers) {
        answers.about(11, "-1 with what 0: there is none such");
        SessionHouse house = answers.started("proc main(){x=7;}");
        answers.due("process(0, 0, 0)", house.process(0, 0, 0), 0);
        house.run(1);
        answers.due("process(0, 3, 0)", house.process(0, 3, 0), 7);
        answers.due("run(1)", house.run(1), 1);
        answers.due("process(0, 0, 0) when it is OVER", house.process(0, 0, 0), -1);
        answers.due("process(0, 2, 0)", house.process(0, 2, 0), 0);
        answers.due("process(0, 3, 0)", house.process(0, 3, 0), 0);
        house = answers.started("proc main(){x=7;get x;}");
        house.run(9);
        answers.due("process(0, 0, 0) behind END 2", house.process(0, 0, 0), 0);
        answers.due("process(0, 3, 0) behind END 2", house.process(0, 3, 0), 7);
    }

    private static void blockedOnesDoNoActs(Answers answers) {
        answers.about(11, "2 ACTS that it did");
        SessionHouse house = answers.started("type S=!int end;proc f(c:~S){recv c x;while 1{}}proc main(){spawn c f();x=1;x=2;send c 1;}");
        house.run(6);
        answers.due("main", house.process(0, 2, 0), 3);
        answers.due("f, which is BLOCKED", house.process(1, 2, 0), 0);
        house.run(2);
        answers.due("f", house.process(1, 2, 0), 1);
        answers.due("count(1)", house.count(1), 5);
    }

    private static void channelsComeAndGo(Answers answers) {
        answers.about(11, "1 how many channels it has");
        SessionHouse house = answers.started("type S=!int end;proc f(c:S){send c 1;}proc main(){spawn a f();spawn b f();spawn c f();"
                + "recv b x;recv a x;recv c x;while 1{}}");
        int[] due = {0, 1, 1, 2};
        for (int visits = 0; visits < due.length; visits++) {
            answers.due("main behind " + visits + " VISITS", house.process(0, 1, 0), due[visits]);
            house.run(1);
        }
        house.run(60);
        answers.due("main behind its last recv", house.process(0, 1, 0), 0);
        answers.due("count(2)", house.count(2), 1);
    }
}
