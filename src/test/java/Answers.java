import java.nio.charset.StandardCharsets;

/** What all tests of the project share: a text is fed, answers are compared, faults are counted. */
final class Answers {
    private int wrong;
    private int asked;
    private int askedAhead;
    private String sentence = "";

    /** The answers from here on are about this sentence of the promise; a fault tells both. */
    void about(int promise, String words) {
        closeSentence();
        sentence = "Promise " + promise + ", '" + words + "': ";
        askedAhead = asked;
    }

    /** A sentence about which nothing was asked would pass whatever the class does. */
    private void closeSentence() {
        if (!sentence.isEmpty() && asked == askedAhead) {
            fault("nothing was asked");
        }
    }

    private void fault(String words) {
        wrong++;
        System.out.println(sentence + words);
    }

    void due(String call, long got, long want) {
        asked++;
        if (got != want) {
            fault(call + " answered " + got + ", due is " + want);
        }
    }

    /** What count() answers from 0 on. */
    void counts(SessionHouse house, int... due) {
        for (int what = 0; what < due.length; what++) {
            due("count(" + what + ") at VISIT " + house.count(0), house.count(what), due[what]);
        }
    }

    /** All that was put, no more and no less. */
    void puts(SessionHouse house, int... due) {
        due("count(7)", house.count(7), due.length);
        for (int i = 0; i < due.length; i++) {
            due("output(" + i + ")", house.output(i), due[i]);
        }
    }

    /** Ends the test with exit code 1 if an answer was wrong, or if nothing was asked at all. */
    void finish(String test) {
        closeSentence();
        System.out.println(test + ": " + asked + " answers, " + wrong + " wrong");
        if (wrong > 0 || asked == 0) {
            System.exit(1);
        }
    }

    /** Feeds the text, twenty bytes a call, and cuts off what the last call had too much. */
    static void tape(SessionHouse house, String text) {
        byte[] bytes = text.getBytes(StandardCharsets.ISO_8859_1);
        int[] five = new int[5];
        for (int from = 0; from < bytes.length; from += 20) {
            for (int i = 0; i < 5; i++) {
                five[i] = 0;
                for (int j = 0; j < 4; j++) {
                    int at = from + 4 * i + j;
                    five[i] = five[i] << 8 | (at < bytes.length ? bytes[at] & 255 : ' ');
                }
            }
            house.feed(five[0], five[1], five[2], five[3], five[4]);
        }
        house.end(bytes.length);
    }

    /** What program() answers to a text on a new object. */
    static int read(String text) {
        return readBy(new SessionHouse(), text);
    }

    /** What program() answers to a text on an object with an empty TAPE. */
    static int readBy(SessionHouse house, String text) {
        tape(house, text);
        return house.program();
    }

    /** A new object with this program, which must be good. */
    SessionHouse loaded(String text) {
        SessionHouse house = new SessionHouse();
        int answer = readBy(house, text);
        asked++;
        if (answer < 1) {
            fault("program() of " + text + " answered " + answer);
        }
        return house;
    }

    /** As loaded, and a run is begun. */
    SessionHouse started(String text) {
        SessionHouse house = loaded(text);
        due("start() of " + text, house.start(), 0);
        return house;
    }

    /** As started, with these sizes. */
    SessionHouse startedWith(int rows, int cells, String text) {
        SessionHouse house = loaded(text);
        due("sizes(" + rows + ", " + cells + ")", house.sizes(rows, cells), 1);
        due("start() of " + text, house.start(), 0);
        return house;
    }

    /** Runs on, 20000 VISITS a call, till the run ends or so many calls were made. */
    static int runOn(SessionHouse house, int times) {
        int ended = 0;
        for (int i = 0; i < times && ended == 0; i++) {
            ended = house.run(20000);
        }
        return ended;
    }

    /** The text with the sign ^ taken out must be WRONG where the sign stood. */
    void wrongAt(String marked) {
        int place = marked.indexOf('^');
        due("program() of " + marked, read(without(marked, place)), -1 - place);
    }

    /** The text with the sign ^ taken out must be BAD where the sign stood. */
    void badAt(String marked) {
        int place = marked.indexOf('^');
        due("program() of " + marked, read(without(marked, place)), -10000 - place);
    }

    void good(String text, int procs) {
        due("program() of " + text, read(text), procs);
    }

    private static String without(String marked, int place) {
        return marked.substring(0, place) + marked.substring(place + 1);
    }

    /** The i-th of many different NAMES of two letters. */
    static String name(int i) {
        return "" + (char) ('A' + i % 26) + (char) ('a' + i / 26 % 26) + (i < 676 ? "" : "" + i / 676);
    }
}
