/** What it is: "what was checked never waits for ever and never gets what it does not expect" (Promise 8). */
public final class NeverWaitsTest {
    public static void main(String[] args) {
        Answers answers = new Answers();
        answers.about(8, "what was checked never waits for ever and never gets what it does not expect");
        manyAheadOfMany(answers);
        chainOfRelays(answers);
        channelsHandedOn(answers);
        treeOfProcesses(answers);
        choicesBothWays(answers);
        channelInItsOwnTalk(answers);
        answers.finish("NeverWaitsTest");
    }

    /** With ROWS of each length: in each round of VISITS some process does an ACT or is OVER. */
    private static void ends(Answers answers, String text, int... puts) {
        for (int rows = 1; rows <= 8; rows++) {
            SessionHouse house = answers.startedWith(rows, 10000, text);
            int ended = 0;
            for (int round = 0; round < 3000 && ended == 0; round++) {
                int done = house.count(1) - house.count(2) + house.count(3);
                ended = house.run(house.count(2));
                int doneThen = house.count(1) - house.count(2) + house.count(3);
                answers.due("a round in which all wait, with ROWS of " + rows, doneThen > done ? 0 : 1, 0);
            }
            answers.due("the run's end with ROWS of " + rows, ended, 1);
            answers.puts(house, puts);
            answers.due("MEMORY left behind", house.count(4), 0);
            answers.due("channels left behind", house.count(5), 0);
            answers.due("messages left behind", house.count(6), 0);
        }
    }

    private static void manyAheadOfMany(Answers answers) {
        ends(answers, "type S=" + "!int ".repeat(9) + "?int ".repeat(9) + "end;proc f(c:~S){" + "recv c x;s=s*2+x;".repeat(9)
                + "send c s;" + "send c 1;".repeat(8) + "}proc main(){spawn c f();" + "n=n+1;send c n%2;".repeat(9)
                + "recv c y;put y;" + "recv c x;".repeat(8) + "}", 0b101010101);
    }

    /** Each of twelve hears from the one behind it and tells the one ahead of it. */
    private static void chainOfRelays(Answers answers) {
        ends(answers, "type S=!int!int!int end;proc f(c:S,n){if n{spawn d f(n-1);recv d x;send c x+1;recv d x;send c x*2;"
                + "recv d x;send c x;}else{send c 1;send c 1;send c 7;}}proc main(){spawn c f(12);recv c x;recv c y;recv c z;"
                + "put x;put y;put z;}", 13, 4096, 7);
    }

    private static void channelsHandedOn(Answers answers) {
        ends(answers, "type S=!int?int end;type G=!(S)end;proc s(c:~S){recv c x;send c x*x;}"
                + "proc hand(g:~G,n){take g c;if n{spawn h hand(n-1);pass h c;}else{send c 9;recv c x;put x;}}"
                + "proc main(){spawn c s();spawn g hand(6);pass g c;}", 81);
    }

    private static void treeOfProcesses(Answers answers) {
        ends(answers, "type S=!int end;proc t(c:S,n){if n{spawn a t(n-1);spawn b t(n-1);recv b y;recv a x;send c x+y+1;}"
                + "else{send c 1;}}proc main(){spawn c t(5);recv c x;put x;}", 63);
    }

    private static void choicesBothWays(Answers answers) {
        ends(answers, "type M=&{add ?int M;ask +{low M;high !int M};quit end};"
                + "proc m(c:M,t){case c{add{recv c x;become m(c,t+x);}ask{if t<10{pick c low;}else{pick c high;send c t;}become m(c,t);}"
                + "quit{put t;}}}proc main(){spawn c m(0);while n<4{pick c add;send c n*3;n=n+1;pick c ask;case c{low{put -1;}"
                + "high{recv c x;put x;}}}pick c quit;}", -1, -1, -1, 18, 18);
    }

    /** The TYPE of what is passed is that of the channel that carries it. */
    private static void channelInItsOwnTalk(Answers answers) {
        ends(answers, "type A=+{go !(A)A;stop end};proc end1(c:~A,n){case c{go{take c d;put n;pick d stop;become end1(c,n+1);}"
                + "stop{if n<40{put 100+n;}else{}}}}proc main(){spawn c end1(0);while i<3{i=i+1;spawn d end1(40);pick c go;pass c d;}pick c stop;}",
                0, 1, 2, 103);
    }
}
