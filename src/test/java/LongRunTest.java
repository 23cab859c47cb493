/** Promise 8 in long runs: rows that are used again, and as many processes as MEMORY has room for. */
public final class LongRunTest {
    private static final int MANY = 3000;

    public static void main(String[] args) {
        Answers answers = new Answers();
        oneAfterTheOther(answers);
        manyAtOnce(answers);
        asManyAsFit(answers);
        inputGoesRound(answers);
        answers.finish("LongRunTest");
    }

    /** Thousands of short processes; three that stay keep their numbers and channels. */
    private static void oneAfterTheOther(Answers answers) {
        answers.about(8, "spawn: a process of the proc, with what is told");
        SessionHouse house = answers.loaded("type S=!int end;proc w(c:S,n){b=n;d=b*2;e=d+7;f=e;become v(c,f,n);}"
                + "proc v(c:S,p,q){g=p-q;h=g;i=h;j=i;send c j;}"
                + "proc keep(c:~S,a){z=a*3;while 0==a%7{}recv c y;put y*z;while 1{}}"
                + "proc main(){spawn k keep(5);spawn l keep(6);become go(k,l);}proc go(k:S,l:S){while i<" + MANY
                + "{spawn c w(i);recv c r;t=t+r;if i%10==0{put r;}else{}i=i+1;}put t;send k 2;send l 4;while 1{}}");
        house.sizes(3, 100);
        for (int times = 0; times < 2; times++) {
            house.start();
            answers.due("run(20000), again and again", Answers.runOn(house, 12), 0);
            answers.due("count(3)", house.count(3), 3 + MANY);
            answers.due("count(7)", house.count(7), MANY / 10 + 3);
            for (int i = 0; i < MANY / 10; i += 7) {
                answers.due("output(" + i + ")", house.output(i), 10 * i + 7);
            }
            answers.due("the sum", house.output(MANY / 10), MANY * (MANY - 1) / 2 + 7 * MANY);
            answers.due("what k was told", house.output(MANY / 10 + 1), 2 * 15);
            answers.due("what l was told", house.output(MANY / 10 + 2), 4 * 18);
            answers.due("process(1, 3, 1)", house.process(1, 3, 1), 5);
            answers.due("process(2, 3, 2)", house.process(2, 3, 2), 18);
            answers.due("process(0, 3, 2)", house.process(0, 3, 2), MANY);
            answers.due("count(2)", house.count(2), 3);
            answers.due("count(4): 10 of main, 8 of each other one", house.count(4), 26);
            answers.due("count(5)", house.count(5), 0);
        }
    }

    /** Each waits for the next one's answer: 700 processes and channels at once. */
    private static void manyAtOnce(Answers answers) {
        answers.about(8, "4 MEMORY would be more than told");
        SessionHouse house = answers.loaded("type S=!int end;"
                + "proc f(c:S,n){if n{spawn d f(n-1);recv d x;send c x+n;}else{send c 0;}}"
                + "proc main(){spawn c f(700);recv c x;put x;}");
        house.sizes(1, 6 + 701 * 14);
        house.start();
        answers.due("run(20000), again and again", Answers.runOn(house, 60), 1);
        answers.due("output(0)", house.output(0), 700 * 701 / 2);
        answers.due("count(3)", house.count(3), 702);
        answers.due("count(4)", house.count(4), 0);
        house.sizes(1, 6 + 701 * 14 - 1);
        for (int times = 0; times < 3; times++) {
            answers.due("start()", house.start(), 0);
            answers.due("run(20000) with a cell too little", Answers.runOn(house, 60), 4);
            answers.due("count(2)", house.count(2), 701);
        }
        house.sizes(1, 6 + 701 * 14);
        house.start();
        answers.due("run(20000) behind three that left all their channels", Answers.runOn(house, 60), 1);
        answers.due("output(0)", house.output(0), 700 * 701 / 2);
        house.sizes(1, 6 + 701 * 14 - 1);
        house.start();
        Answers.runOn(house, 60);
        answers.due("count(5)", house.count(5), 700);
        answers.due("process(700, 3, 1)", house.process(700, 3, 1), 1);
        answers.due("process(1, 3, 1)", house.process(1, 3, 1), 700);
        answers.due("process(701, 0, 0)", house.process(701, 0, 0), -1);
    }

    /** 2500 processes of four cells; each makes the next one and waits. */
    private static void asManyAsFit(Answers answers) {
        answers.about(8, "4 MEMORY would be more than told");
        SessionHouse house = answers.loaded("proc main(){spawn main();spawn main();while 1{}}");
        house.sizes(8, 10000);
        house.start();
        answers.due("run(20000), again and again", Answers.runOn(house, 3), 4);
        answers.due("count(2)", house.count(2), 2500);
        answers.due("count(4)", house.count(4), 10000);
        answers.due("process(2499, 0, 0)", house.process(2499, 0, 0), 0);
        answers.due("process(2500, 0, 0)", house.process(2500, 0, 0), -1);
        house.sizes(8, 9999);
        house.start();
        answers.due("run(20000), again and again", Answers.runOn(house, 3), 4);
        answers.due("count(2)", house.count(2), 2499);
    }

    /** Some INPUT is always left to be read while it goes round. */
    private static void inputGoesRound(Answers answers) {
        answers.about(6, "Three numbers behind the INPUT");
        SessionHouse house = answers.started("proc main(){while 1{get x;put x;}}");
        house.input(0, 1, 2);
        house.input(3, 4, 5);
        house.run(3 * 2);
        for (int i = 2; i < 150; i++) {
            answers.due("input " + i, house.input(3 * i, 3 * i + 1, 3 * i + 2), 7);
            house.run(3 * 3);
        }
        answers.due("count(8)", house.count(8), 4);
        for (int i = 290; i < 310; i++) {
            answers.due("output(" + i + ")", house.output(i), i);
        }
        answers.due("output(445)", house.output(445), 445);
    }
}
