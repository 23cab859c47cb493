/** Promise 8: run, and how processes run (3 RUNNING). */
public final class RunTest {
    public static void main(String[] args) {
        Answers answers = new Answers();
        limits(answers);
        visitByVisit(answers);
        ringOrder(answers);
        leavingTheRing(answers);
        newOnesInPlaceOfOldOnes(answers);
        rowsThatAreFull(answers);
        rowsAreInOrder(answers);
        channelsOnTheWay(answers);
        labels(answers);
        noMoreInput(answers);
        dividedByNought(answers);
        noMemory(answers);
        whatGoesIsGone(answers);
        becoming(answers);
        loops(answers);
        answers.finish("RunTest");
    }

    private static void limits(Answers answers) {
        answers.about(8, "-1: none was begun, or n is not 0 .. 20000");
        SessionHouse house = answers.loaded("proc main(){while 1{}}");
        answers.due("run(1) ahead of start()", house.run(1), -1);
        house.start();
        answers.due("run(-1)", house.run(-1), -1);
        answers.due("run(20001)", house.run(20001), -1);
        answers.due("run of the least number", house.run(Integer.MIN_VALUE), -1);
        answers.due("run of the greatest number", house.run(Integer.MAX_VALUE), -1);
        answers.due("count(0)", house.count(0), 0);
        answers.due("run(0)", house.run(0), 0);
        answers.due("count(0)", house.count(0), 0);
        answers.due("run(20000)", house.run(20000), 0);
        answers.due("run(7)", house.run(7), 0);
        answers.due("count(0)", house.count(0), 20007);
    }

    private static void visitByVisit(Answers answers) {
        answers.about(8, "n VISITS, or so many as there are");
        SessionHouse house = answers.started("proc main(){put 1;put 2;}");
        answers.due("run(1)", house.run(1), 0);
        answers.due("count(7)", house.count(7), 1);
        answers.due("run(1)", house.run(1), 0);
        answers.due("count(7)", house.count(7), 2);
        answers.due("count(2): it stands in the ring till it is OVER", house.count(2), 1);
        answers.due("run(1)", house.run(1), 1);
        answers.due("count(2)", house.count(2), 0);
        answers.due("count(0)", house.count(0), 3);
        answers.due("count(1)", house.count(1), 2);
        answers.due("run(5) behind the end", house.run(5), 1);
        answers.due("count(0)", house.count(0), 3);
        house = answers.started("proc main(){}");
        answers.due("run(20000)", house.run(20000), 1);
        answers.due("count(0)", house.count(0), 1);
        answers.due("count(1)", house.count(1), 0);
    }

    /** New processes stand behind the last one, and are visited in the round in which they came. */
    private static void ringOrder(Answers answers) {
        answers.about(8, "Processes stand in a RING in the order in which they were made (new ones behind the last one)");
        SessionHouse house = answers.started("proc f(n){put n;put n+1;}proc main(){spawn f(10);spawn f(20);put 1;put 2;}");
        answers.due("run(100)", house.run(100), 1);
        answers.puts(house, 10, 11, 20, 1, 21, 2);
    }

    private static void leavingTheRing(Answers answers) {
        answers.about(8, "a process that is over is in it no more");
        SessionHouse house = answers.started("proc a(){}proc b(){put 1;put 2;put 3;}proc main(){spawn a();spawn b();put 7;put 8;}");
        answers.due("run(2): main makes a, a is OVER", house.run(2), 0);
        answers.due("count(2)", house.count(2), 1);
        answers.due("run(1): main again, the only one, makes b", house.run(1), 0);
        answers.due("count(2)", house.count(2), 2);
        answers.due("run(100)", house.run(100), 1);
        answers.puts(house, 1, 7, 2, 8, 3);
    }

    private static void rowsThatAreFull(Answers answers) {
        answers.about(8, "send can be done, if the ROW to the other end is not full");
        SessionHouse house = answers.loaded("type S=!int!int end;proc f(c:~S){put 0;put 0;put 0;put 0;recv c x;put x;recv c x;put x;}"
                + "proc main(){spawn c f();send c 5;send c 1/x;}");
        house.sizes(1, 100);
        house.start();
        answers.due("run(9): blocked, so that nothing is divided yet", house.run(9), 0);
        answers.due("count(6)", house.count(6), 1);
        answers.due("count(0)", house.count(0), 9);
        answers.due("count(1): spawn, send, four puts", house.count(1), 6);
        answers.due("run(1): f takes the message", house.run(1), 0);
        answers.due("count(6)", house.count(6), 0);
        answers.due("run(1): now it is divided", house.run(1), 3);
        answers.due("count(1)", house.count(1), 7);
    }

    private static void rowsAreInOrder(Answers answers) {
        answers.about(8, "each with a ROW of messages that go to it, as many as told at most");
        SessionHouse house = answers.loaded("type S=!int S;type R=~S;proc f(c:R){recv c x;put x;become f(c);}"
                + "proc main(){spawn c f();become g(c,0);}proc g(c:S,n){send c n*n;send c -n;become g(c,n+1);}");
        house.sizes(3, 100);
        house.start();
        answers.due("run(500)", house.run(500), 0);
        for (int n = 0; n < 20; n++) {
            answers.due("output(" + 2 * n + ")", house.output(2 * n), n * n);
            answers.due("output(" + (2 * n + 1) + ")", house.output(2 * n + 1), -n);
        }
    }

    private static void channelsOnTheWay(Answers answers) {
        answers.about(8, "pass, take: a channel goes by a ROW");
        SessionHouse house = answers.started("type S=!int?int end;type G=!(S)end;proc server(c:~S){recv c x;send c x*2;}"
                + "proc client(g:~G){take g d;send d 21;recv d y;put y;}"
                + "proc main(){spawn c server();spawn g client();pass g c;c=3;put c;}");
        answers.due("run(3)", house.run(3), 0);
        answers.due("channels", house.count(5), 2);
        answers.due("run(100)", house.run(100), 1);
        answers.puts(house, 3, 42);
        answers.due("channels", house.count(5), 0);
        answers.due("MEMORY", house.count(4), 0);
    }

    private static void labels(Answers answers) {
        answers.about(8, "case: a label is taken, and the choice");
        SessionHouse house = answers.started("type M=&{add ?int M;show !int M;quit end};"
                + "proc m(c:M,t){case c{quit{put -1;}show{send c t;become m(c,t);}add{recv c x;become m(c,t+x);}}}"
                + "proc main(){spawn c m(100);pick c add;send c 5;pick c show;recv c x;put x;pick c add;send c 7;"
                + "pick c show;recv c x;put x;pick c quit;}");
        answers.due("run(200)", house.run(200), 1);
        answers.puts(house, 105, 112, -1);
        answers.due("count(1): 12 of main, 4 becomes, 4 messages, 5 cases and a put of m", house.count(1), 12 + 4 + 4 + 5 + 1);
    }

    private static void noMoreInput(Answers answers) {
        answers.about(8, "2 get finds no more INPUT");
        SessionHouse house = answers.started("proc main(){x=3;get x;}");
        answers.due("run(9)", house.run(9), 2);
        answers.due("count(0): a VISIT it is", house.count(0), 2);
        answers.due("count(1): no ACT", house.count(1), 1);
        answers.due("process(0, 3, 0): nothing is done", house.process(0, 3, 0), 3);
        house.input(7, 8, 9);
        answers.due("run(9) behind the end", house.run(9), 2);
    }

    private static void dividedByNought(Answers answers) {
        answers.about(8, "3 something is divided by 0");
        String[] acts = {"x=1/y;", "put 1%0;", "if 1/0{}else{}", "while 2%y{}", "x=0*(1/(1-1));", "x=1==1/0;",
            "spawn f(1/0);", "become f(1%0);", "x=-1/-0;"};
        for (String act : acts) {
            SessionHouse house = answers.started("proc f(n){}proc main(){put 1;" + act + "}");
            answers.due("run(1)", house.run(1), 0);
            answers.due("run(9) of " + act, house.run(9), 3);
            answers.due("count(0)", house.count(0), 2);
            answers.due("count(1)", house.count(1), 1);
            answers.due("count(2)", house.count(2), 1);
            answers.due("count(7)", house.count(7), 1);
        }
    }

    private static void noMemory(Answers answers) {
        answers.about(8, "4 MEMORY would be more than told");
        SessionHouse house = answers.loaded("proc f(a,b){}proc main(){x=1;spawn f(x,x);}");
        house.sizes(1, 11);
        house.start();
        answers.due("run(9): five and six are eleven", house.run(9), 1);
        house.sizes(1, 10);
        house.start();
        answers.due("run(9) with a cell too little", house.run(9), 4);
        answers.due("count(0)", house.count(0), 2);
        answers.due("count(1)", house.count(1), 1);
        answers.due("count(2)", house.count(2), 1);
        answers.due("count(3)", house.count(3), 1);
        answers.due("count(4)", house.count(4), 5);
        house = answers.loaded("proc f(a,b){}proc main(){spawn f(1,1/0);}");
        house.sizes(1, 10);
        house.start();
        answers.due("run(9): what is told is worked out first", house.run(9), 3);
        house = answers.loaded("type S=!int end;proc f(c:S){send c 1;}proc main(){spawn c f();recv c x;}");
        house.sizes(1, 17);
        house.start();
        answers.due("run(9): six, five and six", house.run(9), 1);
        house.sizes(1, 16);
        house.start();
        answers.due("run(9) with a cell too little", house.run(9), 4);
        answers.due("count(5): no channel is made", house.count(5), 0);
        answers.due("count(4)", house.count(4), 6);
        house = answers.loaded("type E=end;proc f(c:E){put 1;}proc main(){spawn c f();put c;}");
        house.sizes(8, 10);
        house.start();
        answers.due("run(9): a channel of TYPE end takes nothing", house.run(9), 1);
        answers.puts(house, 1, 0);
    }

    private static void whatGoesIsGone(Answers answers) {
        answers.about(8, "the others' cells and the new ones, what goes being gone");
        SessionHouse house = answers.loaded("proc f(a,b,c,d,e,g){put a;}proc main(){x=1;y=2;become f(x,y,3,4,5,6);}");
        house.sizes(1, 10);
        house.start();
        answers.due("run(3)", house.run(3), 0);
        answers.due("count(4): six cells have gone, ten came", house.count(4), 10);
        answers.due("run(9)", house.run(9), 1);
        house = answers.loaded("proc f(a,b,c,d,e,g,h){}proc main(){x=1;become f(1,2,3,4,5,6,7);}");
        house.sizes(1, 10);
        house.start();
        answers.due("run(9)", house.run(9), 4);
        answers.due("process(0, 0, 0): it stays what it was", house.process(0, 0, 0), 1);
        answers.due("process(0, 3, 0)", house.process(0, 3, 0), 1);
        answers.due("count(4)", house.count(4), 5);
    }

    private static void becoming(Answers answers) {
        answers.about(8, "become: the process goes on as one of that proc (its numbers are 0 but for what is told)");
        SessionHouse house = answers.started("proc f(b,a){put a;put b;put x;x=9;if a<3{become f(a,a+1);}else{}}"
                + "proc main(){x=5;a=7;become f(a,1);}");
        answers.due("run(100)", house.run(100), 1);
        answers.puts(house, 1, 7, 0, 2, 1, 0, 3, 2, 0);
        answers.due("count(3)", house.count(3), 1);
    }

    private static void loops(Answers answers) {
        answers.about(8, "if and while: the EXPRESSION and the choice (a while at each round; 0 is not so)");
        SessionHouse house = answers.started("proc main(){while x<3{x=x+1;if x==2{while y<2{y=y+1;}}else{}}put x+y;if 0{put 1;}else{}"
                + "if 5{put 2;}else{put 3;}while 0{put 4;}}");
        answers.due("run(100)", house.run(100), 1);
        answers.puts(house, 5, 2);
        answers.due("count(1): each round's choice is an ACT", house.count(1), 4 + 3 + 3 + 3 + 2 + 1 + 1 + 2 + 1);
    }

    /** What an earlier process or channel held is not seen by a later one. */
    private static void newOnesInPlaceOfOldOnes(Answers answers) {
        answers.about(8, "a process of the proc, with what is told");
        SessionHouse house = answers.started("proc a(n){put n;put n;put n;if n<4{spawn a(n+2);spawn a(n+1);}else{}put n;}"
                + "proc main(){x=1;spawn a(1);}");
        answers.due("run(200)", house.run(200), 1);
        answers.puts(house, 1, 1, 1, 3, 3, 2, 1, 3, 2, 2, 5, 5, 4, 4, 3, 5, 4, 4, 3, 2, 4, 4, 3, 5, 3, 4, 4, 5, 5, 4, 3, 5, 4,
                4, 5, 4);
        house = answers.started("proc a(){x=1;x=2;}proc b(){while 1{}}proc main(){spawn a();x=1;x=2;x=3;x=4;spawn b();while 1{}}");
        house.run(4);
        answers.due("process(1, 0, 0)", house.process(1, 0, 0), 0);
        answers.due("process(1, 2, 0)", house.process(1, 2, 0), 2);
        house.run(6);
        answers.due("process(1, 0, 0)", house.process(1, 0, 0), 1);
        answers.due("process(1, 2, 0): its own ACTS alone", house.process(1, 2, 0), 1);
        String talk = "type S=!int?int end;proc f(c:~S){recv c x;send c x+1;}proc main(){spawn c f();spawn d f();send d 5;"
                + "recv d y;put y;spawn d f();spawn e f();send d 6;send c 4;send e 7;recv e y;put y;recv d y;put y;recv c y;put y;"
                + "spawn e f();spawn d f();send d 1;send e 2;recv d y;put y;recv e y;put y;}";
        house = answers.loaded(talk);
        for (int n = 8; n >= 1; n--) {
            house.sizes(n, 200);
            house.start();
            answers.due("run(7) with ROWS of " + n, house.run(7), 0);
            house.start();
            answers.due("run(300) with ROWS of " + n, house.run(300), 1);
            answers.puts(house, 6, 8, 7, 5, 2, 3);
        }
        Answers.tape(house, "type S=!int end;proc f(c:S,n){send c n;}proc main(){spawn c f(3);recv c x;put x;}");
        house.program();
        house.start();
        answers.due("run(300) of one channel", house.run(300), 1);
        Answers.tape(house, talk);
        house.program();
        house.start();
        answers.due("run(300) of more channels", house.run(300), 1);
        answers.puts(house, 6, 8, 7, 5, 2, 3);
        house = answers.loaded("type S=!int S;proc f(c:~S){recv c x;put x;become f(c);}proc g(c:S,n){send c n;become g(c,n+1);}"
                + "proc main(){spawn c f();become g(c,10);}");
        for (int n = 8; n >= 1; n--) {
            house.sizes(n, 200);
            house.start();
            house.run(80 + n);
            for (int i = 0; i < 10; i++) {
                answers.due("output(" + i + ") with ROWS of " + n, house.output(i), 10 + i);
            }
        }
    }
}
