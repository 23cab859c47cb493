import java.util.Random;

/** Whatever is called, with whatever numbers and texts: nothing is thrown, answers stay in bounds. */
public final class AnyCallsTest {
    private static final String[] WORDS = {
        "type", "proc", "send", "recv", "pass", "take", "pick", "case", "spawn", "become", "if", "else", "while", "put",
        "get", "int", "end", "main", "a", "b", "c", "S", "T", "f", "g", "1", "0", "999999999", "1234567890", ";", "=",
        "(", ")", "{", "}", ",", ":", "!", "?", "+", "&", "~", "-", "*", "/", "%", "<", "==", "@", "\t", "\0"
    };
    private static final String[] GOOD = {
        "type S=+{a !int S;b end};type T=?(S)T;",
        "proc f(c:~S,n){case c{a{recv c x;put x/n;become f(c,n-1);}b{put n;}}}",
        "proc g(t:T){take t c;pick c a;send c 1;pick c b;become g(t);}",
        "proc h(t:~T){get n;while n{spawn c f(n);pass t c;n=n-1;}become h(t);}",
        "proc main(){spawn t g();spawn h(t);become k(3);}",
        "proc k(n){if n<1{}else{spawn k(n-1);become k(n-1);}}"
    };

    public static void main(String[] args) {
        Answers answers = new Answers();
        for (int seed = 0; seed < 400; seed++) {
            Random random = new Random(seed);
            SessionHouse house = new SessionHouse();
            for (int call = 0; call < 512; ) {
                call += text(answers, house, random) + 1;
                for (int i = 0; i < 40; i++) {
                    any(answers, house, random);
                }
                call += 40;
            }
        }
        answers.finish("AnyCallsTest");
    }

    /** Feeds a text, good, spoilt or senseless; answers about how many calls that were. */
    private static int text(Answers answers, SessionHouse house, Random random) {
        StringBuilder text = new StringBuilder();
        int kind = random.nextInt(3);
        for (int i = 0; i < (kind < 2 ? GOOD.length : 40); i++) {
            text.append(kind < 2 ? GOOD[i] : WORDS[random.nextInt(WORDS.length)] + " ");
        }
        for (int i = 0; kind == 1 && i < 3; i++) {
            int at = random.nextInt(text.length());
            text.replace(at, at + random.nextInt(2), random.nextInt(3) == 0 ? "" : WORDS[random.nextInt(WORDS.length)]);
        }
        house.end(0);
        Answers.tape(house, text.toString());
        int answer = house.program();
        boolean fits = answer >= 1 || answer < 0 && answer >= -3001 || answer <= -10000 && answer >= -13000;
        answers.due("program() answered " + answer + " to " + text, fits ? 1 : 0, 1);
        if (kind == 0) {
            answers.due("program() of the good text", answer, 5);
        }
        house.sizes(1 + random.nextInt(8), 10 + random.nextInt(500));
        house.start();
        return text.length() / 20 + 4;
    }

    private static int number(Random random) {
        int[] edges = {0, 1, -1, 2, 3, 4, 9, 10, 20000, 20001, Integer.MIN_VALUE, Integer.MAX_VALUE};
        return random.nextInt(3) == 0 ? random.nextInt() : edges[random.nextInt(edges.length)];
    }

    private static void within(Answers answers, String call, int got, int least, int most) {
        answers.due(call + " answered " + got, got >= least && got <= most ? 1 : 0, 1);
    }

    private static void any(Answers answers, SessionHouse house, Random random) {
        int a = number(random);
        int b = number(random);
        int c = number(random);
        switch (random.nextInt(11)) {
            case 0 -> within(answers, "feed", house.feed(a, b, c, a, b), -1, 3000);
            case 1 -> within(answers, "end", house.end(a), -1, 3000);
            case 2 -> within(answers, "sizes", house.sizes(a, b), -1, 1);
            case 3 -> within(answers, "input", house.input(a, b, c), -1, 300);
            case 4 -> within(answers, "start", house.start(), -1, 4);
            case 5 -> within(answers, "run", house.run(a), -1, 4);
            case 6 -> house.output(a);
            case 7 -> within(answers, "count", house.count(a), -1, Integer.MAX_VALUE);
            case 8 -> house.process(a, b, c);
            case 9 -> within(answers, "types", house.types(a, b, random.nextInt(3)), -1, 1);
            default -> within(answers, "run", house.run(random.nextInt(100)), -1, 4);
        }
    }
}
