import java.util.ArrayList;
import java.util.Collections;
import java.util.LinkedHashMap;
import java.util.List;
import java.util.Map;
import java.util.Random;

/**
 * Promises 4 and 8 on programs that are grown along TYPES, so that what is due is known from how
 * they were made: they are good, they end, and each number comes to where it is expected. With one
 * STATEMENT or word spoilt, the place of the fault is known as well.
 */
public final class GrownTest {
    private static final int PROGRAMS = 300;
    private static final String SPARE = "zz";

    public static void main(String[] args) {
        Answers answers = new Answers();
        int used = 0;
        for (int seed = 0; seed < PROGRAMS; seed++) {
            Grower grown = new Grower(new Random(seed));
            if (grown.text.length() <= 2950) {
                used++;
                goodAndEnds(answers, grown, seed % 8 + 1);
                badWhereSpoilt(answers, grown, new Random(seed));
                badIfOneLacks(answers, grown, new Random(seed));
                wrongWhereSpoilt(answers, grown, new Random(seed));
            }
        }
        answers.due("most of the programs fit on the TAPE", used > PROGRAMS / 2 ? 1 : 0, 1);
        answers.finish("GrownTest");
    }

    private static void goodAndEnds(Answers answers, Grower grown, int rows) {
        answers.about(8, "what was checked never waits for ever and never gets what it does not expect");
        String text = grown.text.toString();
        SessionHouse house = new SessionHouse();
        answers.due("program() of " + text, Answers.readBy(house, text), grown.procs);
        house.sizes(rows, 10000);
        answers.due("start() of " + text, house.start(), 0);
        answers.due("the end with ROWS of " + rows + " of " + text, Answers.runOn(house, 20), 1);
        for (int what : new int[] {2, 4, 5, 6, 7}) {
            answers.due("count(" + what + ") behind " + text, house.count(what), 0);
        }
    }

    private static String with(String text, int at, String more) {
        return text.substring(0, at) + more + text.substring(at);
    }

    private static void badWhereSpoilt(Answers answers, Grower grown, Random random) {
        answers.about(4, "-10000 less the place of the first STATEMENT (or }) that is BAD");
        String text = grown.text.toString();
        for (int i = 0; i < 12; i++) {
            Spot spot = grown.spots.get(random.nextInt(grown.spots.size()));
            String bad = spot.badStatement(random);
            answers.due("program() with " + bad + " at " + spot.place + " of " + text,
                    Answers.read(with(text, spot.place, bad)), -10000 - spot.place);
        }
    }

    private static void badIfOneLacks(Answers answers, Grower grown, Random random) {
        answers.about(4, "A STATEMENT is BAD, if it is not so");
        String text = grown.text.toString();
        for (int i = 0; i < 3; i++) {
            int[] said = grown.said.get(random.nextInt(grown.said.size()));
            int answer = Answers.read(text.substring(0, said[0]) + text.substring(said[1]));
            answers.due("program() answered " + answer + " without what is from " + said[0] + " to " + said[1] + " of "
                    + text, answer <= -10000 ? 1 : 0, 1);
        }
    }

    private static void wrongWhereSpoilt(Answers answers, Grower grown, Random random) {
        answers.about(4, "-1 less the place where it is WRONG");
        String text = grown.text.toString();
        String[] strange = {"@", "else{}", ";", ")", "1;", "type A=end;", "proc f(){}", "0123456789", "end ", "int\n", "==", "{}"};
        for (int i = 0; i < 4; i++) {
            int place = grown.spots.get(random.nextInt(grown.spots.size())).place;
            String word = strange[random.nextInt(strange.length)];
            answers.due("program() with " + word + " at " + place + " of " + text,
                    Answers.read(with(text, place, word)), -1 - place);
            answers.due("program() of the first " + place + " of " + text, Answers.read(text.substring(0, place)), -1 - place);
        }
    }

    /** A TYPE; each int that is said by it has a number of its own, which must come out. */
    private static final class Form {
        final char kind;
        int value;
        Form inside;
        Form behind;
        String[] labels = {};
        Form[] by = {};
        boolean loops;
        private Form dual;

        Form(char kind) {
            this.kind = kind;
        }

        Form dual() {
            if (dual == null) {
                dual = new Form("e?!TG&+".charAt("e!?GT+&".indexOf(kind)));
                dual.dual = this;
                dual.value = value;
                dual.inside = inside;
                dual.labels = labels;
                dual.loops = loops;
                dual.behind = behind == null ? null : behind.dual();
                dual.by = new Form[by.length];
                for (int i = 0; i < by.length; i++) {
                    dual.by[i] = by[i].dual();
                }
            }
            return dual;
        }
    }

    /** A place where a STATEMENT may stand, with the channels that the proc has there. */
    private static final class Spot {
        final int place;
        private final Map<String, Form> channels;

        Spot(int place, Map<String, Form> channels) {
            this.place = place;
            this.channels = new LinkedHashMap<>(channels);
        }

        String badStatement(Random random) {
            String[] always = {"send zz 1;", "recv zz x;", "pass zz yy;", "take zz yy;", "pick zz a;", "case zz{a{}}",
                "spawn main(1);", "spawn zz main();", "become main(zz);", "become main();put 1;"};
            if (channels.isEmpty() || random.nextInt(5) == 0) {
                return always[random.nextInt(always.length)];
            }
            List<String> names = new ArrayList<>(channels.keySet());
            String c = names.get(random.nextInt(names.size()));
            return random.nextBoolean() ? otherKind(random, c) : asNumber(random, c);
        }

        /** Speaks otherwise than the channel's TYPE says; SPARE is no LABEL and no channel. */
        private String otherKind(Random random, String c) {
            String[] speaks = {"send %s 1;", "recv %s zz;", "pass %s zz;", "take %s zz;", "pick %s zz;", "case %s{zz{}}"};
            int which = random.nextInt(speaks.length);
            boolean fits = "!?GT".indexOf(channels.get(c).kind) == which && which != 2;
            return String.format(fits ? "pick %s zz;" : speaks[which], c);
        }

        private static String asNumber(Random random, String c) {
            String[] uses = {"put %s;", "get %s;", "%s=1;", "zz=-(%s);", "while %s{}", "if %s==1{}else{}", "put 1+2*%s;",
                "send %s %s;", "recv %s %s;", "pass %s %s;", "take %s %s;", "become main();", "spawn %s main();"};
            return uses[random.nextInt(uses.length)].replace("%s", c);
        }
    }

    /** A proc that is mentioned already and is still to be written. */
    private record Mentioned(String name, List<Form> forms, List<Integer> numbers, int depth, boolean listens) { }

    private static final class Grower {
        final StringBuilder text = new StringBuilder();
        final List<Spot> spots = new ArrayList<>();
        final List<int[]> said = new ArrayList<>();
        int procs;
        private final Random random;
        private final Map<Form, String> typeNames = new LinkedHashMap<>();
        private final List<Form> unwrittenTypes = new ArrayList<>();
        private final List<Mentioned> unwritten = new ArrayList<>();
        private int values = 100;
        private int names;
        private boolean inLoop;

        Grower(Random random) {
            this.random = random;
            unwritten.add(new Mentioned("main", List.of(), List.of(), 3, false));
            for (int i = 0; i < 100 && !unwritten.isEmpty(); i++) {
                writeProc(unwritten.remove(random.nextInt(unwritten.size())));
                writeTypes();
            }
        }

        private String fresh(String letter) {
            names++;
            return letter + names;
        }

        private boolean chance(int oneIn) {
            return random.nextInt(oneIn) == 0;
        }

        private boolean isLong() {
            return text.length() + 90 * unwritten.size() > 1000;
        }

        private Form form(int depth) {
            if (depth <= 0) {
                return new Form('e');
            }
            if (chance(9)) {
                return loop(depth);
            }
            Form form = new Form("!?!?GT+&".charAt(random.nextInt(8)));
            if ("!?".indexOf(form.kind) >= 0) {
                form.value = values++;
            } else if ("GT".indexOf(form.kind) >= 0) {
                form.inside = form(1 + random.nextInt(Math.max(1, depth - 1)));
            } else {
                choices(form, 1 + random.nextInt(3), depth);
            }
            form.behind = form.labels.length > 0 ? null : form(depth - 1 - random.nextInt(2));
            return form;
        }

        private void choices(Form form, int many, int depth) {
            form.labels = new String[many];
            form.by = new Form[many];
            for (int i = 0; i < many; i++) {
                form.labels[i] = "" + (char) ('a' + i);
                form.by[i] = form(depth - 1 - random.nextInt(2));
            }
        }

        /** A number again and again, then something else. */
        private Form loop(int depth) {
            Form form = new Form('+');
            form.loops = true;
            choices(form, 2, depth);
            Form said = new Form('!');
            said.value = values++;
            said.behind = form;
            form.by[0] = said;
            return chance(2) ? form : form.dual();
        }

        private String typeText(Form form) {
            if (form.kind == 'e') {
                return "end";
            }
            if (typeNames.containsKey(form) && (form.loops || chance(2))) {
                return typeNames.get(form);
            }
            if (typeNames.containsKey(form.dual()) && (form.loops || chance(2))) {
                return "~" + typeNames.get(form.dual());
            }
            if (!typeNames.containsKey(form) && !typeNames.containsKey(form.dual()) && (form.loops || chance(4))) {
                String name = fresh("T");
                typeNames.put(form, name);
                unwrittenTypes.add(form);
                return name;
            }
            return inFull(form);
        }

        private String inFull(Form form) {
            switch (form.kind) {
                case '!':
                case '?':
                    return form.kind + (chance(2) ? "int " : " int\n") + typeText(form.behind);
                case 'G':
                    return "!(" + typeText(form.inside) + ")" + typeText(form.behind);
                case 'T':
                    return "?(" + typeText(form.inside) + ")" + typeText(form.behind);
                default:
                    List<String> alternatives = new ArrayList<>();
                    for (int i = 0; i < form.labels.length; i++) {
                        alternatives.add(form.labels[i] + " " + typeText(form.by[i]));
                    }
                    Collections.shuffle(alternatives, random);
                    return form.kind + "{" + String.join(";", alternatives) + "}";
            }
        }

        private void writeTypes() {
            while (!unwrittenTypes.isEmpty()) {
                Form form = unwrittenTypes.remove(0);
                text.append("type ").append(typeNames.get(form)).append("=").append(inFull(form)).append(";\n");
            }
        }

        private void writeProc(Mentioned proc) {
            procs++;
            Map<String, Form> channels = new LinkedHashMap<>();
            List<String> parameters = new ArrayList<>();
            StringBuilder looks = new StringBuilder();
            for (Form form : proc.forms) {
                String c = fresh("c");
                channels.put(c, form);
                parameters.add(c + ":" + typeText(form));
            }
            for (int number : proc.numbers) {
                String n = fresh("n");
                parameters.add(n);
                looks.append("if ").append(n).append("==").append(number).append("{}else{put 1;}");
            }
            text.append("proc ").append(proc.name).append("(").append(String.join(",", parameters)).append("){");
            spot(channels);
            text.append(looks);
            for (int i = 0; i < 2 && proc.name.equals("main"); i++) {
                open(channels, form(proc.depth), proc.depth);
            }
            if (proc.listens) {
                listen(proc, channels);
            } else {
                finish(channels, proc.depth, true);
            }
            text.append("}\n");
        }

        private void spot(Map<String, Form> channels) {
            spots.add(new Spot(text.length(), channels));
        }

        /** The other side of a loop: as often as the number is said, the proc becomes itself. */
        private void listen(Mentioned proc, Map<String, Form> channels) {
            String c = channels.keySet().iterator().next();
            Form form = channels.get(c);
            text.append("case ").append(c).append("{on{".replace("on", form.labels[0]));
            channels.put(c, form.by[0]);
            hear(channels, c);
            text.append("become ").append(proc.name).append("(").append(c).append(");}").append(form.labels[1]).append("{");
            channels.put(c, form.by[1]);
            close(channels, c);
            finish(channels, proc.depth, true);
            text.append("}}");
        }

        private static void close(Map<String, Form> channels, String c) {
            if (channels.get(c).kind == 'e') {
                channels.remove(c);
            }
        }

        /** STATEMENTS till all these channels are gone; mayGo: nothing stands behind them. */
        private void finish(Map<String, Form> channels, int depth, boolean mayGo) {
            for (int i = 0; i < 200; i++) {
                spot(channels);
                if (!isLong() && depth > 0 && i < 3 && chance(2)) {
                    more(channels, depth);
                    spot(channels);
                }
                if (channels.isEmpty()) {
                    return;
                }
                List<String> own = new ArrayList<>(channels.keySet());
                String c = own.get(random.nextInt(own.size()));
                if (mayGo && chance(8)) {
                    hand("become ", channels, own, depth);
                    return;
                }
                if (chance(10)) {
                    hand("spawn ", channels, own.subList(0, 1 + random.nextInt(own.size())), depth);
                } else if (!isLong() && depth > 0 && chance(8)) {
                    finishEitherWay(channels, c, depth);
                } else {
                    speak(channels, c, depth);
                }
            }
        }

        private void more(Map<String, Form> channels, int depth) {
            if (!inLoop && chance(4)) {
                String k = fresh("k");
                text.append(k).append("=0;while ").append(k).append("<3{").append(k).append("=").append(k).append("+1;");
                inLoop = true;
                Map<String, Form> own = new LinkedHashMap<>();
                open(own, form(depth), depth);
                finish(own, depth - 1, false);
                inLoop = false;
                text.append("}");
            } else {
                open(channels, form(depth), depth);
            }
        }

        private String mention(String name, List<Form> forms, List<Integer> numbers, int depth, boolean listens) {
            unwritten.add(new Mentioned(name, new ArrayList<>(forms), numbers, depth, listens));
            return name;
        }

        private List<Integer> numbers() {
            List<Integer> numbers = new ArrayList<>();
            for (int i = random.nextInt(3); i > 0; i--) {
                numbers.add(values++);
            }
            return numbers;
        }

        private String expression(int value) {
            switch (random.nextInt(6)) {
                case 0:
                    return "(" + value + ")";
                case 1:
                    return (value + 7) + "-3-4";
                case 2:
                    return "- -" + value;
                case 3:
                    return value / 10 + "*10+" + value % 10;
                case 4:
                    return value + "+" + SPARE + "*5";
                default:
                    return "" + value;
            }
        }

        private void addNumbers(List<String> told, List<Integer> numbers) {
            for (int number : numbers) {
                told.add(expression(number));
            }
        }

        private void open(Map<String, Form> channels, Form form, int depth) {
            String d = fresh("d");
            List<Integer> numbers = numbers();
            List<String> told = new ArrayList<>();
            addNumbers(told, form.loops ? List.of() : numbers);
            boolean listens = form.loops && form.kind == '+';
            String name = mention(fresh("p"), List.of(form.dual()), form.loops ? List.of() : numbers, depth - 1, listens);
            text.append("spawn ").append(d).append(" ").append(name).append("(").append(String.join(",", told)).append(");");
            channels.put(d, form);
            close(channels, d);
        }

        private void hand(String word, Map<String, Form> channels, List<String> given, int depth) {
            List<Form> forms = new ArrayList<>();
            for (String c : given) {
                forms.add(channels.get(c));
            }
            List<Integer> numbers = numbers();
            List<String> told = new ArrayList<>(given);
            addNumbers(told, numbers);
            String name = mention(fresh("p"), forms, numbers, depth - 1, false);
            text.append(word).append(name).append("(").append(String.join(",", told)).append(");");
            channels.keySet().removeAll(new ArrayList<>(given));
        }

        private Map<String, Form> alone(Map<String, Form> channels, String c) {
            Map<String, Form> own = new LinkedHashMap<>();
            own.put(c, channels.get(c));
            return own;
        }

        private void finishEitherWay(Map<String, Form> channels, String c, int depth) {
            text.append("if ").append(random.nextInt(2)).append("{");
            finish(alone(channels, c), depth - 1, false);
            text.append("}else{");
            finish(alone(channels, c), depth - 1, false);
            text.append("}");
            channels.remove(c);
        }

        private void speak(Map<String, Form> channels, String c, int depth) {
            Form form = channels.get(c);
            switch (form.kind) {
                case '!':
                    say(channels, c);
                    break;
                case '?':
                    hear(channels, c);
                    break;
                case 'G':
                    give(channels, c, depth);
                    break;
                case 'T':
                    String d = fresh("d");
                    statement(channels, c, "take " + c + " " + d + ";");
                    channels.put(d, form.inside);
                    close(channels, d);
                    break;
                case '+':
                    pick(channels, c, form);
                    break;
                default:
                    offer(channels, c, depth, form);
                    break;
            }
        }

        private void statement(Map<String, Form> channels, String c, String words) {
            said.add(new int[] {text.length(), text.length() + words.length()});
            text.append(words);
            channels.put(c, channels.get(c).behind);
            close(channels, c);
        }

        private void say(Map<String, Form> channels, String c) {
            statement(channels, c, "send " + c + " " + expression(channels.get(c).value) + ";");
        }

        private void hear(Map<String, Form> channels, String c) {
            int value = channels.get(c).value;
            statement(channels, c, "recv " + c + " x;");
            text.append("if x==").append(value).append("{}else{put x;}");
        }

        /** What is passed was spoken by already, a number each way, so that it goes in its middle. */
        private void give(Map<String, Form> channels, String c, int depth) {
            Map<String, Form> own = new LinkedHashMap<>();
            Form inside = channels.get(c).inside;
            if (inside.kind == 'e') {
                throw new IllegalStateException("no channel is EQUAL to end");
            }
            Form ahead = new Form(chance(2) ? '!' : '?');
            ahead.value = values++;
            ahead.behind = inside;
            boolean spoken = chance(2);
            open(own, spoken ? ahead : inside, depth);
            String d = own.keySet().iterator().next();
            if (spoken) {
                speak(own, d, depth);
            }
            channels.put(d, own.get(d));
            spot(channels);
            channels.remove(d);
            statement(channels, c, "pass " + c + " " + d + ";");
        }

        private void pick(Map<String, Form> channels, String c, Form form) {
            int which = random.nextInt(form.labels.length);
            if (form.loops) {
                String k = fresh("k");
                text.append(k).append("=0;while ").append(k).append("<").append(random.nextInt(4)).append("{").append(k)
                        .append("=").append(k).append("+1;pick ").append(c).append(" ").append(form.labels[0]).append(";");
                channels.put(c, form.by[0]);
                spot(channels);
                say(channels, c);
                text.append("}");
                which = 1;
            }
            text.append("pick ").append(c).append(" ").append(form.labels[which]).append(";");
            channels.put(c, form.by[which]);
            close(channels, c);
        }

        private void offer(Map<String, Form> channels, String c, int depth, Form form) {
            if (form.loops) {
                String name = mention(fresh("p"), List.of(form), List.of(), depth - 1, true);
                text.append("spawn ").append(name).append("(").append(c).append(");");
                channels.remove(c);
                return;
            }
            List<Integer> order = new ArrayList<>();
            for (int i = 0; i < form.labels.length; i++) {
                order.add(i);
            }
            Collections.shuffle(order, random);
            text.append("case ").append(c).append("{");
            for (int i : order) {
                text.append(form.labels[i]).append("{");
                Map<String, Form> own = alone(channels, c);
                own.put(c, form.by[i]);
                close(own, c);
                finish(own, depth - 1, false);
                text.append("}");
            }
            text.append("}");
            channels.remove(c);
        }
    }
}
