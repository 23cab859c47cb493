import java.nio.charset.StandardCharsets;

/** What all tests of the project share: a text is fed, answers are compared, faults are counted. */
final class Answers {
    private int wrong;
    private int asked;

    void due(String call, long got, long want) {
        asked++;
        if (got != want) {
            wrong++;
            System.out.println(call + " answered " + got + ", due is " + want);
        }
    }

    /** Ends the test with exit code 1 if an answer was wrong, or if nothing was asked at all. */
    void finish(String test) {
        System.out.println(test + ": " + asked + " answers, " + wrong + " wrong");
        if (wrong > 0 || asked == 0) {
            System.exit(1);
        }
    }

    /** Feeds the text, twenty bytes a call, and cuts off what the last call had too much. */
    static void tape(SessionHouse house, String text) {
        byte[] bytes = text.getBytes(StandardCharsets.ISO_8859_1);
        int[] five = new int[5];
        for (int from = 0; from < bytes.length; from += 20) {
            for (int i = 0; i < 5; i++) {
                five[i] = 0;
                for (int j = 0; j < 4; j++) {
                    int at = from + 4 * i + j;
                    five[i] = five[i] << 8 | (at < bytes.length ? bytes[at] & 255 : ' ');
                }
            }
            house.feed(five[0], five[1], five[2], five[3], five[4]);
        }
        house.end(bytes.length);
    }

    /** What program() answers to a text on a new object. */
    static int read(String text) {
        SessionHouse house = new SessionHouse();
        tape(house, text);
        return house.program();
    }

    /** A new object with this program, which must be good. */
    SessionHouse loaded(String text) {
        SessionHouse house = new SessionHouse();
        tape(house, text);
        int answer = house.program();
        asked++;
        if (answer < 1) {
            wrong++;
            System.out.println("program() of " + text + " answered " + answer);
        }
        return house;
    }

    /** As loaded, and a run is begun. */
    SessionHouse started(String text) {
        SessionHouse house = loaded(text);
        due("start() of " + text, house.start(), 0);
        return house;
    }

    /** The text with the sign ^ taken out must be WRONG where the sign stood. */
    void wrongAt(String marked) {
        int place = marked.indexOf('^');
        due("program() of " + marked, read(without(marked, place)), -1 - place);
    }

    /** The text with the sign ^ taken out must be BAD where the sign stood. */
    void badAt(String marked) {
        int place = marked.indexOf('^');
        due("program() of " + marked, read(without(marked, place)), -10000 - place);
    }

    void good(String text, int procs) {
        due("program() of " + text, read(text), procs);
    }

    private static String without(String marked, int place) {
        return marked.substring(0, place) + marked.substring(place + 1);
    }
}
