/**
 * A house of processes that speak by typed channels: a text is read, each channel's way of
 * speaking is checked, and processes run turn by turn. All rows are made once, together with the
 * object, and every call uses them again.
 */
public final class SessionHouse {

    private static final int TAPE = 3000;
    private static final int MOST_ROWS = 8;
    private static final int LEAST_CELLS = 10;
    private static final int MOST_CELLS = 10000;
    private static final int MOST_VISITS = 20000;
    private static final int INPUTS = 300;
    private static final int OUTPUTS = 500;
    private static final int DEPTH = 40;

    // Two NAMES never touch, so a full TAPE has at most half as many of them as bytes.
    private static final int NAMES = 1600;
    private static final int TABLE = 4096;
    // Each node of a TYPE and each step of an EXPRESSION comes from a word of its own.
    private static final int NODES = 3000;
    private static final int STEPS = 3000;
    // A part (LABEL, PARAMETER, ARGUMENT, mention) takes two bytes, a STATEMENT three words.
    private static final int PARTS = 1600;
    private static final int STATEMENTS = 1000;
    // "type A=B;" and "proc f(){}" are the shortest of their kinds.
    private static final int DEFINITIONS = 400;
    // Forty BLOCKS in one another leave bytes for some 900 NAMES, which take two rows a level.
    private static final int FRAMES = 80000;
    // Each of forty levels leaves at most three values of an EXPRESSION waiting.
    private static final int STACK = 256;
    // A process takes four cells at least, an end of a channel three.
    private static final int PROCESSES = 2501;
    private static final int ENDS = 3336;
    // All NAMES of all processes take less than MOST_CELLS; what is more saves moving them.
    private static final int HALF = 12000;

    // A word's place here is its kind; main is an ordinary NAME, whose number is known this way.
    private static final String KNOWN =
            "type proc send recv pass take pick case spawn become if else while put get int end main ";
    private static final String SIGNS = ";=(){},:!?+&~-*/%<";
    private static final int TYPE = 0;
    private static final int PROC = 1;
    private static final int SEND = 2;
    private static final int RECV = 3;
    private static final int PASS = 4;
    private static final int TAKE = 5;
    private static final int PICK = 6;
    private static final int CASE = 7;
    private static final int SPAWN = 8;
    private static final int BECOME = 9;
    private static final int IF = 10;
    private static final int ELSE = 11;
    private static final int WHILE = 12;
    private static final int PUT = 13;
    private static final int GET = 14;
    private static final int INT = 15;
    private static final int END = 16;
    private static final int MAIN = 17;
    // The kinds of the other words; a sign's kind is its character.
    private static final int NAME = 17;
    private static final int NUMBER = 18;
    private static final int LAST = 19;
    private static final int STRANGE = 20;
    private static final int STOP = 21;
    private static final int SAME = 256;
    private static final int NEGATE = 257;

    // The kinds of TYPES; from SAY on, a kind and its DUAL differ in the lowest bit.
    private static final int ENDED = 0;
    private static final int NAMED = 2;
    private static final int TWIN = 3;
    private static final int SAY = 4;
    private static final int HEAR = 5;
    private static final int GIVE = 6;
    private static final int GAIN = 7;
    private static final int CHOOSE = 8;
    private static final int OFFER = 9;

    // How a run ended.
    private static final int NONE = -1;
    private static final int GOING = 0;
    private static final int FINISHED = 1;
    private static final int NO_INPUT = 2;
    private static final int DIVIDED = 3;
    private static final int NO_MEMORY = 4;

    private final Ints tape = new Ints(TAPE);
    private final Forms forms;
    private final Procs procs;
    private final Reader reader;
    private final Checker checker;
    private final House house;
    private int length;
    private int rows = 4;
    private int cells = 2000;
    private boolean ready;

    public SessionHouse() {
        Forms allForms = new Forms();
        Formulas formulas = new Formulas();
        Statements statements = new Statements();
        Procs allProcs = new Procs();
        reader = new Reader(allForms, formulas, statements, allProcs);
        checker = new Checker(allForms, formulas, statements, allProcs);
        house = new House(formulas, statements, allProcs);
        forms = allForms;
        procs = allProcs;
    }

    public int feed(int a, int b, int c, int d, int e) {
        if (length + 20 > TAPE) {
            return -1;
        }
        append(a);
        append(b);
        append(c);
        append(d);
        append(e);
        return length;
    }

    private void append(int four) {
        for (int shift = 24; shift >= 0; shift -= 8) {
            tape.set(length, (four >>> shift) & 255);
            length++;
        }
    }

    public int end(int n) {
        if (n < 0 || n > length) {
            return -1;
        }
        length = n;
        return n;
    }

    public int program() {
        int bytes = length;
        length = 0;
        ready = false;
        house.forget();
        int wrong = reader.readAll(tape, bytes);
        if (wrong >= 0) {
            return -1 - wrong;
        }
        for (int proc = 0; proc < procs.size; proc++) {
            int bad = checker.check(proc);
            if (bad >= 0) {
                return -10000 - bad;
            }
        }
        ready = true;
        return procs.size;
    }

    public int sizes(int n, int cells) {
        if (n < 1 || n > MOST_ROWS || cells < LEAST_CELLS || cells > MOST_CELLS) {
            return -1;
        }
        this.rows = n;
        this.cells = cells;
        return 1;
    }

    public int input(int a, int b, int c) {
        if (house.toRead + 3 > INPUTS) {
            return -1;
        }
        house.addInput(a);
        house.addInput(b);
        house.addInput(c);
        return house.toRead;
    }

    public int start() {
        return ready ? house.begin(rows, cells) : -1;
    }

    public int run(int n) {
        if (n < 0 || n > MOST_VISITS) {
            return -1;
        }
        for (int i = 0; i < n && house.ended == GOING; i++) {
            house.visit();
        }
        return house.ended;
    }

    public int output(int i) {
        return house.outputAt(i);
    }

    public int count(int what) {
        return what == 9 ? length : house.tally(what);
    }

    public int process(int k, int what, int j) {
        return house.tell(k, what, j);
    }

    public int types(int i, int j, int sign) {
        boolean known = i >= 0 && i < forms.size && j >= 0 && j < forms.size;
        if (!ready || !known || sign < 0 || sign > 1) {
            return -1;
        }
        return forms.equal(forms.begins.get(i), forms.begins.get(j) ^ sign) ? 1 : 0;
    }

    /** A row of numbers that looks at every index: outside of it stands -1. */
    private static final class Ints {
        private final int[] cells;

        Ints(int size) {
            cells = new int[Math.max(size, 0)];
        }

        int get(int at) {
            return at >= 0 && at < cells.length ? cells[at] : -1;
        }

        void set(int at, int value) {
            if (at >= 0 && at < cells.length) {
                cells[at] = value;
            }
        }

        void fill(int from, int to, int value) {
            for (int i = Math.max(from, 0); i < to && i < cells.length; i++) {
                cells[i] = value;
            }
        }

        void copy(int from, int to, int many) {
            if (from >= 0 && to >= 0 && many >= 0
                    && from <= cells.length - many && to <= cells.length - many) {
                System.arraycopy(cells, from, cells, to, many);
            }
        }
    }

    /** The TAPE cut into WORDS, each NAME with a number of its own. */
    private static final class Words {
        // Kind, place and value of each word, one behind the other.
        final int[] row = new int[3 * (TAPE + 1)];
        private final Ints letters = new Ints(TAPE + 120);
        private final Ints firstLetter = new Ints(NAMES + 2);
        private final Ints table = new Ints(TABLE);
        private int size;
        private int names;
        private int used;

        void cut(Ints tape, int length) {
            forget();
            int at = 0;
            for (int i = 0; i < TAPE && at < length; i++) {
                int b = tape.get(at);
                if (b == ' ' || b == '\n') {
                    at++;
                } else if (isLetter(b)) {
                    at = cutName(tape, at, length);
                } else if (isDigit(b)) {
                    at = cutNumber(tape, at, length);
                } else {
                    at = cutSign(tape, at, length);
                }
            }
            add(LAST, length, 0);
        }

        int kindAt(int word) {
            return word >= 0 && word < size && 3 * word < row.length ? row[3 * word] : LAST;
        }

        private void forget() {
            size = 0;
            names = 0;
            used = 0;
            firstLetter.set(0, 0);
            table.fill(0, TABLE, -1);
            for (int i = 0; i < KNOWN.length(); i++) {
                if (KNOWN.charAt(i) == ' ') {
                    nameNumber();
                } else {
                    letters.set(used, KNOWN.charAt(i));
                    used++;
                }
            }
        }

        private static boolean isLetter(int b) {
            return b >= 'a' && b <= 'z' || b >= 'A' && b <= 'Z';
        }

        private static boolean isDigit(int b) {
            return b >= '0' && b <= '9';
        }

        private int cutName(Ints tape, int from, int length) {
            int at = from;
            while (at < length && (isLetter(tape.get(at)) || isDigit(tape.get(at)))) {
                letters.set(used, tape.get(at));
                used++;
                at++;
            }
            int name = nameNumber();
            add(name < MAIN ? name : NAME, from, name);
            return at;
        }

        private int cutNumber(Ints tape, int from, int length) {
            int at = from;
            int value = 0;
            while (at < length && isDigit(tape.get(at))) {
                value = value * 10 + tape.get(at) - '0';
                at++;
            }
            add(at - from > 9 ? STRANGE : NUMBER, from, value);
            return at;
        }

        private int cutSign(Ints tape, int at, int length) {
            int b = tape.get(at);
            if (b == '=' && at + 1 < length && tape.get(at + 1) == '=') {
                add(SAME, at, 0);
                return at + 2;
            }
            add(b >= 0 && SIGNS.indexOf((char) b) >= 0 ? b : STRANGE, at, 0);
            return at + 1;
        }

        private void add(int kind, int place, int value) {
            int at = 3 * size;
            if (at >= 0 && at + 2 < row.length) {
                row[at] = kind;
                row[at + 1] = place;
                row[at + 2] = value;
                size++;
            }
        }

        /** The number of the NAME whose letters were put last; known ones are not kept twice. */
        private int nameNumber() {
            int from = firstLetter.get(names);
            int hash = 0;
            for (int i = from; i < used; i++) {
                hash = hash * 31 + letters.get(i);
            }
            for (int i = 0; i < TABLE; i++) {
                int slot = (hash + i) & (TABLE - 1);
                int name = table.get(slot);
                if (name < 0) {
                    table.set(slot, names);
                    names++;
                    firstLetter.set(names, used);
                    return names - 1;
                }
                if (isSame(name, from)) {
                    used = from;
                    return name;
                }
            }
            return -1;
        }

        private boolean isSame(int name, int from) {
            int first = firstLetter.get(name);
            int many = used - from;
            if (firstLetter.get(name + 1) - first != many) {
                return false;
            }
            for (int i = 0; i < many; i++) {
                if (letters.get(first + i) != letters.get(from + i)) {
                    return false;
                }
            }
            return true;
        }
    }

    /**
     * The TYPES as nodes. A state is twice a node, plus 1 if what is DUAL to the node is meant;
     * the 1 goes on to what stands behind and by LABELS, but not into ( ).
     */
    private static final class Forms {
        private final Ints kind = new Ints(NODES);
        // What stands in ( ), the first alternative, or the NAME.
        private final Ints inner = new Ints(NODES);
        // What stands behind, or how many alternatives there are.
        private final Ints behind = new Ints(NODES);
        private final Ints label = new Ints(PARTS);
        private final Ints part = new Ints(PARTS);
        private final Ints following = new Ints(PARTS);
        private final Ints root = new Ints(DEFINITIONS);
        private final Ints place = new Ints(DEFINITIONS);
        private final Ints byName = new Ints(NAMES);
        // The state that each type's NAME stands for, NAMES and ~ replaced.
        final Ints begins = new Ints(DEFINITIONS);
        // States that are known, or for now taken, to be EQUAL hang under a common one.
        private final Ints above = new Ints(2 * NODES);
        // Each node but those of NAMES is behind at most one other: so many pairs can wait.
        private final Ints pairs = new Ints(4 * NODES + 4);
        private int waiting;
        private int nodes;
        private int parts;
        int size;

        void forget() {
            nodes = 0;
            parts = 0;
            size = 0;
            byName.fill(0, NAMES, -1);
            forgetEqual();
        }

        private void forgetEqual() {
            for (int i = 0; i < 2 * NODES; i++) {
                above.set(i, i);
            }
        }

        int find(int name) {
            return byName.get(name);
        }

        int define(int name, int at) {
            byName.set(name, size);
            place.set(size, at);
            size++;
            return size - 1;
        }

        void lay(int type, int node) {
            root.set(type, node);
        }

        int node(int which, int inside) {
            kind.set(nodes, which);
            inner.set(nodes, inside);
            behind.set(nodes, which >= CHOOSE ? 0 : -1);
            nodes++;
            return nodes - 1;
        }

        boolean goesOn(int node) {
            int which = kind.get(node);
            return which >= SAY && which <= GAIN;
        }

        void follow(int node, int next) {
            behind.set(node, next);
        }

        /** A further alternative behind the one that was added last (-1: none was). */
        int addPart(int node, int last, int name, int form) {
            label.set(parts, name);
            part.set(parts, form);
            following.set(parts, -1);
            if (last < 0) {
                inner.set(node, parts);
            } else {
                following.set(last, parts);
            }
            behind.set(node, behind.get(node) + 1);
            parts++;
            return parts - 1;
        }

        int findPart(int node, int name) {
            int at = inner.get(node);
            for (int i = 0; i < PARTS && at >= 0; i++) {
                if (label.get(at) == name) {
                    return at;
                }
                at = following.get(at);
            }
            return -1;
        }

        private boolean isName(int node) {
            return kind.get(node) == NAMED || kind.get(node) == TWIN;
        }

        /** The place of the first type that leads to itself by NAMES alone, or -1. */
        int loopPlace() {
            for (int type = 0; type < size; type++) {
                int at = type;
                for (int i = 0; i < size && isName(root.get(at)); i++) {
                    at = byName.get(inner.get(root.get(at)));
                    if (at == type) {
                        return place.get(type);
                    }
                }
            }
            return -1;
        }

        void settle() {
            for (int type = 0; type < size; type++) {
                int node = root.get(type);
                int twins = 0;
                for (int i = 0; i < size && isName(node); i++) {
                    twins ^= kind.get(node) & 1;
                    node = root.get(byName.get(inner.get(node)));
                }
                begins.set(type, 2 * node + twins);
            }
        }

        int settled(int state) {
            int node = state >> 1;
            int which = kind.get(node);
            if (which != NAMED && which != TWIN) {
                return state;
            }
            return begins.get(byName.get(inner.get(node))) ^ (which & 1) ^ (state & 1);
        }

        /** The kind of a settled state; -1 for -1, which is no channel. */
        int kindOf(int state) {
            int which = kind.get(state >> 1);
            return which >= SAY ? which ^ (state & 1) : which;
        }

        int behindOf(int state) {
            return 2 * behind.get(state >> 1) + (state & 1);
        }

        int insideOf(int state) {
            return 2 * inner.get(state >> 1);
        }

        int choices(int state) {
            return behind.get(state >> 1);
        }

        /** What stands by a LABEL, or -1. */
        int byLabel(int state, int name) {
            int at = findPart(state >> 1, name);
            return at < 0 ? -1 : 2 * part.get(at) + (state & 1);
        }

        /**
         * Takes both to be EQUAL and looks for a contradiction in all that follows. If there is
         * none, what was taken is true and is kept.
         */
        boolean equal(int one, int other) {
            waiting = 0;
            pairUp(one, other);
            for (int i = 0; i < 4 * NODES && waiting > 0; i++) {
                waiting--;
                int a = highest(settled(pairs.get(2 * waiting)));
                int b = highest(settled(pairs.get(2 * waiting + 1)));
                if (a == b) {
                    continue;
                }
                if (kindOf(a) != kindOf(b) || !(kindOf(a) >= CHOOSE ? chooseAlike(a, b) : goOnAlike(a, b))) {
                    forgetEqual();
                    return false;
                }
                above.set(a, b);
            }
            return true;
        }

        private void pairUp(int one, int other) {
            pairs.set(2 * waiting, one);
            pairs.set(2 * waiting + 1, other);
            waiting++;
        }

        private int highest(int state) {
            int at = state;
            for (int i = 0; i < 2 * NODES && above.get(at) != at; i++) {
                above.set(at, above.get(above.get(at)));
                at = above.get(at);
            }
            return at;
        }

        /** Both are of one kind: lets what stands in ( ) and behind them wait. */
        private boolean goOnAlike(int a, int b) {
            int which = kindOf(a);
            if (which == GIVE || which == GAIN) {
                pairUp(insideOf(a), insideOf(b));
            }
            if (which >= SAY) {
                pairUp(behindOf(a), behindOf(b));
            }
            return true;
        }

        /** Whether both have the same LABELS: lets what stands by them wait. */
        private boolean chooseAlike(int a, int b) {
            if (choices(a) != choices(b)) {
                return false;
            }
            int at = inner.get(a >> 1);
            for (int i = 0; i < PARTS && at >= 0; i++) {
                int twin = findPart(b >> 1, label.get(at));
                if (twin < 0) {
                    return false;
                }
                pairUp(2 * part.get(at) + (a & 1), 2 * part.get(twin) + (b & 1));
                at = following.get(at);
            }
            return true;
        }
    }

    /** EXPRESSIONS as steps (what is worked with first, then the sign), and ARGUMENTS. */
    private static final class Formulas {
        private final Ints ops = new Ints(STEPS);
        private final Ints values = new Ints(STEPS);
        final Ints argumentFrom = new Ints(PARTS);
        final Ints argumentTo = new Ints(PARTS);
        // The slot of an ARGUMENT that is a NAME alone, or -1.
        final Ints alone = new Ints(PARTS);
        private final Ints stack = new Ints(STACK);
        int steps;
        int arguments;
        int result;

        void forget() {
            steps = 0;
            arguments = 0;
        }

        void add(int op, int value) {
            ops.set(steps, op);
            values.set(steps, value);
            steps++;
        }

        void addArgument(int from, boolean isAlone) {
            argumentFrom.set(arguments, from);
            argumentTo.set(arguments, steps);
            alone.set(arguments, isAlone ? values.get(from) : -1);
            arguments++;
        }

        /** Whether no NAME in the steps has a state, that is, none is a channel. */
        boolean isWithout(Ints states, int from, int to) {
            for (int i = from; i < to; i++) {
                if (ops.get(i) == NAME && states.get(values.get(i)) >= 0) {
                    return false;
                }
            }
            return true;
        }

        /** Leaves what comes out in result; false if something is divided by 0. */
        boolean work(int from, int to, Ints numbers, int base) {
            int top = 0;
            for (int i = from; i < to; i++) {
                int op = ops.get(i);
                if (op == NUMBER || op == NAME) {
                    stack.set(top, op == NUMBER ? values.get(i) : numbers.get(base + values.get(i)));
                    top++;
                } else if (op == NEGATE) {
                    stack.set(top - 1, -stack.get(top - 1));
                } else {
                    top--;
                    int right = stack.get(top);
                    if (right == 0 && (op == '/' || op == '%')) {
                        return false;
                    }
                    stack.set(top - 1, join(op, stack.get(top - 1), right));
                }
            }
            result = stack.get(0);
            return true;
        }

        private static int join(int op, int left, int right) {
            switch (op) {
                case '+':
                    return left + right;
                case '-':
                    return left - right;
                case '*':
                    return left * right;
                case '/':
                    return right == 0 ? 0 : left / right;
                case '%':
                    return right == 0 ? 0 : left % right;
                case '<':
                    return left < right ? 1 : 0;
                default:
                    return left == right ? 1 : 0;
            }
        }
    }

    /** STATEMENTS in the order of the text, and the BLOCKS (branches) that they hold. */
    private static final class Statements {
        final Ints kind = new Ints(STATEMENTS);
        final Ints place = new Ints(STATEMENTS);
        final Ints first = new Ints(STATEMENTS);
        final Ints second = new Ints(STATEMENTS);
        // The steps of the EXPRESSION, or the ARGUMENTS.
        final Ints from = new Ints(STATEMENTS);
        final Ints to = new Ints(STATEMENTS);
        final Ints next = new Ints(STATEMENTS);
        private final Ints parent = new Ints(STATEMENTS);
        // Where a process goes on behind it; -1: at the BLOCK's end.
        final Ints after = new Ints(STATEMENTS);
        final Ints branch = new Ints(STATEMENTS);
        // 1 if it leaves the channel, or what spawn would make one, with TYPE end.
        final Ints closes = new Ints(STATEMENTS);
        final Ints branchLabel = new Ints(PARTS);
        final Ints branchBlock = new Ints(PARTS);
        final Ints branchCloses = new Ints(PARTS);
        final Ints branchNext = new Ints(PARTS);
        private int size;
        private int branches;

        void forget() {
            size = 0;
            branches = 0;
        }

        int add(int which, int at, int holder) {
            kind.set(size, which);
            place.set(size, at);
            first.set(size, -1);
            second.set(size, -1);
            from.set(size, 0);
            to.set(size, 0);
            next.set(size, -1);
            parent.set(size, holder);
            branch.set(size, -1);
            closes.set(size, 0);
            size++;
            return size - 1;
        }

        /** A further branch behind the one that was added last (-1: none was). */
        int addBranch(int statement, int last, int label, int block) {
            branchLabel.set(branches, label);
            branchBlock.set(branches, block);
            branchCloses.set(branches, 0);
            branchNext.set(branches, -1);
            if (last < 0) {
                branch.set(statement, branches);
            } else {
                branchNext.set(last, branches);
            }
            branches++;
            return branches - 1;
        }

        int findBranch(int statement, int label) {
            int at = branch.get(statement);
            for (int i = 0; i < PARTS && at >= 0; i++) {
                if (branchLabel.get(at) == label) {
                    return at;
                }
                at = branchNext.get(at);
            }
            return -1;
        }

        /** Those that hold others stand ahead of them, so theirs is known when it is asked for. */
        void settle() {
            for (int s = 0; s < size; s++) {
                int holder = parent.get(s);
                if (next.get(s) >= 0) {
                    after.set(s, next.get(s));
                } else if (holder >= 0 && kind.get(holder) == WHILE) {
                    after.set(s, holder);
                } else {
                    after.set(s, holder < 0 ? -1 : after.get(holder));
                }
            }
        }

        /** Where a process goes on that has chosen this branch. */
        int entry(int statement, int chosen) {
            int block = branchBlock.get(chosen);
            if (chosen < 0) {
                return after.get(statement);
            }
            if (block >= 0) {
                return block;
            }
            return kind.get(statement) == WHILE ? statement : after.get(statement);
        }
    }

    /** The procs; each different NAME of a proc has a slot, its PARAMETERS the first ones. */
    private static final class Procs {
        private final Ints byName = new Ints(NAMES);
        private final Ints firstParameter = new Ints(DEFINITIONS);
        final Ints parameters = new Ints(DEFINITIONS);
        final Ints slots = new Ints(DEFINITIONS);
        final Ints block = new Ints(DEFINITIONS);
        final Ints last = new Ints(DEFINITIONS);
        private final Ints forms = new Ints(PARTS);
        private final Ints slotOf = new Ints(NAMES);
        private final Ints slotOwner = new Ints(NAMES);
        private int allParameters;
        int size;

        void forget() {
            size = 0;
            allParameters = 0;
            byName.fill(0, NAMES, -1);
            slotOwner.fill(0, NAMES, -1);
        }

        int find(int name) {
            return byName.get(name);
        }

        /** The newest proc is the one that all slots and PARAMETERS are added to. */
        void begin(int name) {
            byName.set(name, size);
            firstParameter.set(size, allParameters);
            parameters.set(size, 0);
            slots.set(size, 0);
            size++;
        }

        void close(int statements, int place) {
            block.set(size - 1, statements);
            last.set(size - 1, place);
        }

        boolean hasSlot(int name) {
            return slotOwner.get(name) == size - 1;
        }

        int slotFor(int name) {
            int proc = size - 1;
            if (slotOwner.get(name) != proc) {
                slotOwner.set(name, proc);
                slotOf.set(name, slots.get(proc));
                slots.set(proc, slots.get(proc) + 1);
            }
            return slotOf.get(name);
        }

        void addParameter(int node) {
            forms.set(allParameters, node < 0 ? -1 : 2 * node);
            parameters.set(size - 1, parameters.get(size - 1) + 1);
            allParameters++;
        }

        /** The state of a PARAMETER that is a channel; -1 for a number. */
        int form(int proc, int k) {
            return forms.get(firstParameter.get(proc) + k);
        }
    }

    /** Reads the words from the left; behind the first wrong one it sees nothing but STOP. */
    private static final class Reader {
        private final Words words = new Words();
        private final Forms forms;
        private final Formulas formulas;
        private final Statements statements;
        private final Procs procs;
        private final Ints mentionPlace = new Ints(PARTS);
        // Twice the NAME, plus 1 if it must be a proc's.
        private final Ints mention = new Ints(PARTS);
        private int mentions;
        private int at;
        private int kind;
        private int place;
        private int value;
        private int wrong;
        private int open;
        private int closedAt;

        Reader(Forms forms, Formulas formulas, Statements statements, Procs procs) {
            this.forms = forms;
            this.formulas = formulas;
            this.statements = statements;
            this.procs = procs;
        }

        /** The place where the program is WRONG, or -1. */
        int readAll(Ints tape, int length) {
            forms.forget();
            formulas.forget();
            statements.forget();
            procs.forget();
            words.cut(tape, length);
            mentions = 0;
            wrong = -1;
            open = 0;
            at = -1;
            step();
            for (int i = 0; i < TAPE && wrong < 0 && (i == 0 || kind != LAST); i++) {
                if (kind == TYPE) {
                    readDefinition();
                } else if (kind == PROC) {
                    readProc();
                } else {
                    refuse();
                }
            }
            if (wrong < 0) {
                wrong = lackingPlace(length);
            }
            if (wrong < 0) {
                forms.settle();
                statements.settle();
            }
            return wrong;
        }

        /** What can be told only when all has been read. */
        private int lackingPlace(int length) {
            for (int i = 0; i < mentions; i++) {
                int name = mention.get(i) >> 1;
                boolean ofProc = (mention.get(i) & 1) == 1;
                if ((ofProc ? procs.find(name) : forms.find(name)) < 0) {
                    return mentionPlace.get(i);
                }
            }
            int loop = forms.loopPlace();
            if (loop >= 0) {
                return loop;
            }
            int main = procs.find(MAIN);
            return main < 0 || procs.parameters.get(main) > 0 ? length : -1;
        }

        private void step() {
            at++;
            int cell = 3 * at;
            if (wrong < 0 && cell >= 0 && cell + 2 < words.row.length) {
                kind = words.row[cell];
                place = words.row[cell + 1];
                value = words.row[cell + 2];
            }
        }

        private void refuse() {
            if (wrong < 0) {
                wrong = place;
                kind = STOP;
            }
        }

        private void expect(int which) {
            if (kind == which) {
                step();
            } else {
                refuse();
            }
        }

        private boolean enter(int which) {
            if (kind != which || open >= DEPTH) {
                refuse();
                return false;
            }
            open++;
            step();
            return true;
        }

        private void leave(int which) {
            closedAt = place;
            open--;
            if (kind == which) {
                step();
            } else {
                refuse();
            }
        }

        private void mentionName(int ofProc) {
            mentionPlace.set(mentions, place);
            mention.set(mentions, 2 * value + ofProc);
            mentions++;
        }

        private void readDefinition() {
            step();
            if (kind != NAME || forms.find(value) >= 0) {
                refuse();
                return;
            }
            int type = forms.define(value, place);
            step();
            expect('=');
            forms.lay(type, readForm());
            expect(';');
        }

        /** What stands behind ! and ? is read in a loop, as it may be long. */
        private int readForm() {
            int first = -1;
            int last = -1;
            for (int i = 0; i < TAPE && wrong < 0; i++) {
                int node = readHead();
                if (last < 0) {
                    first = node;
                } else {
                    forms.follow(last, node);
                }
                last = node;
                if (!forms.goesOn(node)) {
                    break;
                }
            }
            return first;
        }

        private int readHead() {
            switch (kind) {
                case END:
                    step();
                    return forms.node(ENDED, -1);
                case NAME:
                    return readNamed(NAMED);
                case '~':
                    step();
                    return readNamed(TWIN);
                case '!':
                    return readMessage(0);
                case '?':
                    return readMessage(1);
                case '+':
                    return readChoice(CHOOSE);
                case '&':
                    return readChoice(OFFER);
                default:
                    refuse();
                    return -1;
            }
        }

        private int readNamed(int which) {
            if (kind != NAME) {
                refuse();
                return -1;
            }
            mentionName(0);
            int node = forms.node(which, value);
            step();
            return node;
        }

        private int readMessage(int side) {
            step();
            if (kind == INT) {
                step();
                return forms.node(SAY + side, -1);
            }
            if (!enter('(')) {
                return -1;
            }
            int inside = readForm();
            leave(')');
            return forms.node(GIVE + side, inside);
        }

        private int readChoice(int which) {
            step();
            if (!enter('{')) {
                return -1;
            }
            int node = forms.node(which, -1);
            int last = -1;
            for (int i = 0; i < TAPE && wrong < 0; i++) {
                if (kind != NAME || forms.findPart(node, value) >= 0) {
                    refuse();
                    break;
                }
                int label = value;
                step();
                last = forms.addPart(node, last, label, readForm());
                if (kind != ';') {
                    break;
                }
                step();
            }
            leave('}');
            return node;
        }

        private void readProc() {
            step();
            if (kind != NAME || procs.find(value) >= 0) {
                refuse();
                return;
            }
            procs.begin(value);
            step();
            readParameters();
            int block = readBlock(-1);
            procs.close(block, closedAt);
        }

        private void readParameters() {
            if (!enter('(')) {
                return;
            }
            for (int i = 0; i < TAPE && wrong < 0 && (i > 0 || kind != ')'); i++) {
                if (kind != NAME || procs.hasSlot(value)) {
                    refuse();
                    break;
                }
                procs.slotFor(value);
                step();
                int node = -1;
                if (kind == ':') {
                    step();
                    node = readForm();
                }
                procs.addParameter(node);
                if (kind != ',') {
                    break;
                }
                step();
            }
            leave(')');
        }

        private int readBlock(int holder) {
            if (!enter('{')) {
                return -1;
            }
            int first = -1;
            int last = -1;
            for (int i = 0; i < TAPE && wrong < 0 && kind != '}'; i++) {
                int statement = readStatement(holder);
                if (last < 0) {
                    first = statement;
                } else {
                    statements.next.set(last, statement);
                }
                last = statement;
            }
            leave('}');
            return first;
        }

        private int readStatement(int holder) {
            int word = kind;
            if (word != NAME && (word < SEND || word > GET || word == ELSE)) {
                refuse();
                return -1;
            }
            int s = statements.add(word, place, holder);
            if (word != NAME) {
                step();
            }
            switch (word) {
                case SPAWN:
                case BECOME:
                    readCall(s, word);
                    break;
                case CASE:
                    readSlot(s);
                    readCases(s);
                    break;
                case IF:
                    readFormula(s);
                    int then = statements.addBranch(s, -1, -1, readBlock(s));
                    expect(ELSE);
                    statements.addBranch(s, then, -1, readBlock(s));
                    break;
                case WHILE:
                    readFormula(s);
                    statements.addBranch(s, -1, -1, readBlock(s));
                    break;
                default:
                    readNames(s, word);
                    if (word == NAME || word == SEND || word == PUT) {
                        readFormula(s);
                    }
                    expect(';');
                    break;
            }
            return s;
        }

        /** The NAMES of a STATEMENT that holds no others and makes no process. */
        private void readNames(int s, int word) {
            if (word != PUT) {
                readSlot(s);
            }
            if (word == NAME) {
                expect('=');
            } else if (word >= RECV && word <= PICK) {
                readSecond(s, word == PICK);
            }
        }

        private void readSlot(int s) {
            if (kind != NAME) {
                refuse();
                return;
            }
            statements.first.set(s, procs.slotFor(value));
            step();
        }

        private void readSecond(int s, boolean isLabel) {
            if (kind != NAME) {
                refuse();
                return;
            }
            statements.second.set(s, isLabel ? value : procs.slotFor(value));
            step();
        }

        private void readFormula(int s) {
            statements.from.set(s, formulas.steps);
            readExpression();
            statements.to.set(s, formulas.steps);
        }

        private void readCases(int s) {
            if (!enter('{')) {
                return;
            }
            int last = -1;
            for (int i = 0; i < TAPE && wrong < 0 && (i == 0 || kind != '}'); i++) {
                if (kind != NAME || statements.findBranch(s, value) >= 0) {
                    refuse();
                    break;
                }
                int label = value;
                step();
                last = statements.addBranch(s, last, label, readBlock(s));
            }
            leave('}');
        }

        private void readCall(int s, int word) {
            if (word == SPAWN && words.kindAt(at + 1) == NAME) {
                readSlot(s);
            }
            if (kind != NAME) {
                refuse();
                return;
            }
            mentionName(1);
            statements.second.set(s, value);
            step();
            if (!enter('(')) {
                return;
            }
            statements.from.set(s, formulas.arguments);
            for (int i = 0; i < TAPE && wrong < 0 && (i > 0 || kind != ')'); i++) {
                int from = formulas.steps;
                boolean isName = kind == NAME;
                int begin = at;
                readExpression();
                formulas.addArgument(from, isName && at == begin + 1);
                if (kind != ',') {
                    break;
                }
                step();
            }
            statements.to.set(s, formulas.arguments);
            leave(')');
            expect(';');
        }

        private void readExpression() {
            readSum();
            if (kind == '<' || kind == SAME) {
                int op = kind;
                step();
                readSum();
                formulas.add(op, 0);
            }
        }

        private void readSum() {
            readProduct();
            for (int i = 0; i < TAPE && (kind == '+' || kind == '-'); i++) {
                int op = kind;
                step();
                readProduct();
                formulas.add(op, 0);
            }
        }

        private void readProduct() {
            readAtom();
            for (int i = 0; i < TAPE && (kind == '*' || kind == '/' || kind == '%'); i++) {
                int op = kind;
                step();
                readAtom();
                formulas.add(op, 0);
            }
        }

        private void readAtom() {
            if (kind == NUMBER) {
                formulas.add(NUMBER, value);
                step();
            } else if (kind == NAME) {
                formulas.add(NAME, procs.slotFor(value));
                step();
            } else if (kind == '-') {
                if (enter('-')) {
                    readAtom();
                    open--;
                    formulas.add(NEGATE, 0);
                }
            } else if (enter('(')) {
                readExpression();
                leave(')');
            }
        }
    }

    /**
     * Goes along a BLOCK with a state for each slot (-1: no channel). The states that hold now
     * stand first in the row; behind them each level of BLOCKS has two rows of its own, for the
     * states ahead of a STATEMENT and for those with which its first BLOCK ended.
     */
    private static final class Checker {
        private final Forms forms;
        private final Formulas formulas;
        private final Statements statements;
        private final Procs procs;
        private final Ints states = new Ints(FRAMES);
        private int slots;
        private int bad;

        Checker(Forms forms, Formulas formulas, Statements statements, Procs procs) {
            this.forms = forms;
            this.formulas = formulas;
            this.statements = statements;
            this.procs = procs;
        }

        /** The place of the first BAD STATEMENT (or end) of a proc, or -1. */
        int check(int proc) {
            bad = -1;
            slots = procs.slots.get(proc);
            states.fill(0, slots, -1);
            for (int k = 0; k < procs.parameters.get(proc); k++) {
                if (procs.form(proc, k) >= 0) {
                    hold(k, procs.form(proc, k));
                }
            }
            boolean away = checkBlock(procs.block.get(proc), 0);
            if (bad < 0 && !away && hasChannels()) {
                bad = procs.last.get(proc);
            }
            return bad;
        }

        /** Answers 1 if the state is end, so that there is no channel any more. */
        private int hold(int slot, int state) {
            int settled = forms.settled(state);
            boolean closed = forms.kindOf(settled) == ENDED;
            states.set(slot, closed ? -1 : settled);
            return closed ? 1 : 0;
        }

        private boolean hasChannels() {
            for (int i = 0; i < slots; i++) {
                if (states.get(i) >= 0) {
                    return true;
                }
            }
            return false;
        }

        private boolean isSame(int row) {
            for (int i = 0; i < slots; i++) {
                int now = states.get(i);
                int then = states.get(row + i);
                if (now < 0 != then < 0 || now >= 0 && !forms.equal(now, then)) {
                    return false;
                }
            }
            return true;
        }

        private void fail(int s) {
            bad = statements.place.get(s);
        }

        /** Whether the BLOCK goes away. */
        private boolean checkBlock(int block, int depth) {
            boolean away = false;
            int s = block;
            for (int i = 0; i < STATEMENTS && s >= 0 && bad < 0 && depth <= DEPTH; i++) {
                away = checkStatement(s, depth);
                int next = statements.next.get(s);
                if (bad < 0 && away && next >= 0) {
                    fail(s);
                }
                s = next;
            }
            return away;
        }

        private boolean checkStatement(int s, int depth) {
            int kind = statements.kind.get(s);
            boolean good;
            if (kind == SPAWN || kind == BECOME) {
                good = fitsParameters(s) && givesArguments(s) && opensChannel(s)
                        && (kind == SPAWN || !hasChannels());
            } else if (kind == CASE) {
                good = isGoodCase(s);
            } else if (kind == IF || kind == WHILE) {
                good = formulas.isWithout(states, statements.from.get(s), statements.to.get(s));
            } else {
                good = isGoodPlain(s, kind);
            }
            if (!good) {
                fail(s);
                return false;
            }
            if (kind == CASE || kind == IF) {
                return checkBranches(s, depth, kind == CASE);
            }
            if (kind == WHILE) {
                checkRound(s, depth);
            }
            return kind == BECOME;
        }

        private boolean isGoodPlain(int s, int kind) {
            int c = statements.first.get(s);
            int d = statements.second.get(s);
            int state = states.get(c);
            int form = forms.kindOf(state);
            int other = states.get(d);
            boolean numbers = formulas.isWithout(states, statements.from.get(s), statements.to.get(s));
            switch (kind) {
                case SEND:
                    return form == SAY && numbers && goOn(s, forms.behindOf(state));
                case RECV:
                    return form == HEAR && other < 0 && goOn(s, forms.behindOf(state));
                case PASS:
                    if (form != GIVE || c == d || other < 0 || !forms.equal(other, forms.insideOf(state))) {
                        return false;
                    }
                    states.set(d, -1);
                    return goOn(s, forms.behindOf(state));
                case TAKE:
                    if (form != GAIN || other >= 0) {
                        return false;
                    }
                    hold(d, forms.insideOf(state));
                    return goOn(s, forms.behindOf(state));
                case PICK:
                    return form == CHOOSE && goOn(s, forms.byLabel(state, d));
                default:
                    return state < 0 && numbers;
            }
        }

        /** The STATEMENT's channel goes on with this state; false if there is none (-1). */
        private boolean goOn(int s, int state) {
            if (state < 0) {
                return false;
            }
            statements.closes.set(s, hold(statements.first.get(s), state));
            return true;
        }

        private boolean isGoodCase(int s) {
            int state = states.get(statements.first.get(s));
            if (forms.kindOf(state) != OFFER) {
                return false;
            }
            int many = 0;
            int branch = statements.branch.get(s);
            for (int i = 0; i < PARTS && branch >= 0; i++) {
                if (forms.byLabel(state, statements.branchLabel.get(branch)) < 0) {
                    return false;
                }
                many++;
                branch = statements.branchNext.get(branch);
            }
            return many == forms.choices(state);
        }

        /** Whether the proc has as many PARAMETERS, and the first one is a channel if one is told. */
        private boolean fitsParameters(int s) {
            int proc = procs.find(statements.second.get(s));
            int many = statements.to.get(s) - statements.from.get(s);
            if (statements.first.get(s) < 0) {
                return many == procs.parameters.get(proc);
            }
            return many + 1 == procs.parameters.get(proc) && procs.form(proc, 0) >= 0;
        }

        /** A channel that is given away is none any more, for the ARGUMENTS behind it, too. */
        private boolean givesArguments(int s) {
            int proc = procs.find(statements.second.get(s));
            int k = statements.first.get(s) >= 0 ? 1 : 0;
            for (int i = statements.from.get(s); i < statements.to.get(s); i++) {
                int form = procs.form(proc, k);
                int slot = formulas.alone.get(i);
                if (form < 0) {
                    if (!formulas.isWithout(states, formulas.argumentFrom.get(i), formulas.argumentTo.get(i))) {
                        return false;
                    }
                } else if (states.get(slot) < 0 || !forms.equal(states.get(slot), form)) {
                    return false;
                } else {
                    states.set(slot, -1);
                }
                k++;
            }
            return true;
        }

        /** The NAME ahead of the proc's, if there is one, becomes a channel. */
        private boolean opensChannel(int s) {
            int c = statements.first.get(s);
            if (c < 0) {
                return true;
            }
            if (states.get(c) >= 0) {
                return false;
            }
            int proc = procs.find(statements.second.get(s));
            statements.closes.set(s, hold(c, procs.form(proc, 0) ^ 1));
            return true;
        }

        /** Whether all BLOCKS go away; what they end with is compared behind the last one. */
        private boolean checkBranches(int s, int depth, boolean isCase) {
            int ahead = slots * (1 + 2 * depth);
            int result = ahead + slots;
            boolean away = true;
            boolean alike = true;
            states.copy(0, ahead, slots);
            int branch = statements.branch.get(s);
            for (int i = 0; i < PARTS && branch >= 0; i++) {
                states.copy(ahead, 0, slots);
                if (isCase) {
                    int c = statements.first.get(s);
                    int state = forms.byLabel(states.get(c), statements.branchLabel.get(branch));
                    statements.branchCloses.set(branch, hold(c, state));
                }
                boolean gone = checkBlock(statements.branchBlock.get(branch), depth + 1);
                if (bad >= 0) {
                    return false;
                }
                if (!gone && away) {
                    away = false;
                    states.copy(0, result, slots);
                } else if (!gone) {
                    alike = alike && isSame(result);
                }
                branch = statements.branchNext.get(branch);
            }
            if (!alike) {
                fail(s);
            }
            states.copy(away ? ahead : result, 0, slots);
            return away;
        }

        private void checkRound(int s, int depth) {
            int ahead = slots * (1 + 2 * depth);
            states.copy(0, ahead, slots);
            boolean gone = checkBlock(statements.branchBlock.get(statements.branch.get(s)), depth + 1);
            if (bad < 0 && !gone && !isSame(ahead)) {
                fail(s);
            }
            states.copy(ahead, 0, slots);
        }
    }

    /** The channels' ends (two numbers that differ in the lowest bit) and the ROWS to them. */
    private static final class Channels {
        private final Ints messages = new Ints(MOST_CELLS);
        private final Ints oldest = new Ints(ENDS);
        private final Ints filled = new Ints(ENDS);
        private final Ints openEnds = new Ints(ENDS / 2);
        private final Ints free = new Ints(ENDS / 2);
        private int freed;
        private int fresh;
        private int rows;
        int living;
        int waiting;

        void forget(int n) {
            rows = n;
            freed = 0;
            fresh = 0;
            living = 0;
            waiting = 0;
        }

        int cellsOfOne() {
            return 4 + 2 * rows;
        }

        /** The first end of a new channel. */
        int make() {
            int channel = fresh;
            if (freed > 0) {
                freed--;
                channel = free.get(freed);
            } else {
                fresh++;
            }
            openEnds.set(channel, 2);
            for (int end = 2 * channel; end <= 2 * channel + 1; end++) {
                oldest.set(end, 0);
                filled.set(end, 0);
            }
            living++;
            return 2 * channel;
        }

        /** Whether the channel is gone, both its ends being CLOSED. */
        boolean close(int end) {
            int channel = end >> 1;
            openEnds.set(channel, openEnds.get(channel) - 1);
            if (openEnds.get(channel) > 0) {
                return false;
            }
            free.set(freed, channel);
            freed++;
            living--;
            return true;
        }

        boolean isFull(int end) {
            return filled.get(end) >= rows;
        }

        boolean isEmpty(int end) {
            return filled.get(end) <= 0;
        }

        void add(int end, int message) {
            int at = oldest.get(end) + filled.get(end);
            messages.set(end * rows + (at >= rows ? at - rows : at), message);
            filled.set(end, filled.get(end) + 1);
            waiting++;
        }

        int remove(int end) {
            int at = oldest.get(end);
            oldest.set(end, at + 1 >= rows ? 0 : at + 1);
            filled.set(end, filled.get(end) - 1);
            waiting--;
            return messages.get(end * rows + at);
        }
    }

    /**
     * The processes in the order in which they were made. Their numbers and channels lie one
     * behind the other in one half of two rows; when it is full, the living ones move to the
     * other half.
     */
    private static final class Ring {
        final Ints proc = new Ints(PROCESSES);
        final Ints spot = new Ints(PROCESSES);
        final Ints acts = new Ints(PROCESSES);
        final Ints base = new Ints(PROCESSES);
        final Ints slots = new Ints(PROCESSES);
        private final Ints following = new Ints(PROCESSES);
        private final Ints earlier = new Ints(PROCESSES);
        private final Ints free = new Ints(PROCESSES);
        final Ints numbers = new Ints(2 * HALF);
        private final Ints ends = new Ints(2 * HALF);
        private int head;
        private int tail;
        private int freed;
        private int fresh;
        private int half;
        private int used;
        int living;
        int made;

        void forget() {
            head = -1;
            tail = -1;
            freed = 0;
            fresh = 0;
            half = 0;
            used = 0;
            living = 0;
            made = 0;
        }

        /** A new process behind the last one, with nothing in its slots yet. */
        int join(int which, int many, int block) {
            int p = fresh;
            if (freed > 0) {
                freed--;
                p = free.get(freed);
            } else {
                fresh++;
            }
            acts.set(p, 0);
            become(p, which, many, block);
            following.set(p, -1);
            earlier.set(p, tail);
            if (tail < 0) {
                head = p;
            } else {
                following.set(tail, p);
            }
            tail = p;
            living++;
            made++;
            return p;
        }

        void become(int p, int which, int many, int block) {
            slots.set(p, 0);
            if (used + many > HALF) {
                move();
            }
            base.set(p, half + used);
            slots.set(p, many);
            numbers.fill(half + used, half + used + many, 0);
            ends.fill(half + used, half + used + many, -1);
            used += many;
            proc.set(p, which);
            spot.set(p, block);
        }

        private void move() {
            half = HALF - half;
            used = 0;
            int p = head;
            for (int i = 0; i < PROCESSES && p >= 0; i++) {
                int many = slots.get(p);
                numbers.copy(base.get(p), half + used, many);
                ends.copy(base.get(p), half + used, many);
                base.set(p, half + used);
                used += many;
                p = following.get(p);
            }
        }

        void leave(int p) {
            int back = earlier.get(p);
            int next = following.get(p);
            if (back < 0) {
                head = next;
            } else {
                following.set(back, next);
            }
            if (next < 0) {
                tail = back;
            } else {
                earlier.set(next, back);
            }
            free.set(freed, p);
            freed++;
            living--;
        }

        /** The one that is visited behind p, even if p has just left. */
        int nextOf(int p) {
            return following.get(p) < 0 ? head : following.get(p);
        }

        /** The k-th process, or -1. */
        int pick(int k) {
            if (k < 0 || k >= living) {
                return -1;
            }
            int p = head;
            for (int i = 0; i < k; i++) {
                p = following.get(p);
            }
            return p;
        }

        void setNumber(int p, int slot, int value) {
            numbers.set(base.get(p) + slot, value);
        }

        int channel(int p, int slot) {
            return ends.get(base.get(p) + slot);
        }

        void setChannel(int p, int slot, int end) {
            ends.set(base.get(p) + slot, end);
        }

        int channels(int p) {
            int many = 0;
            for (int i = 0; i < slots.get(p); i++) {
                many += channel(p, i) >= 0 ? 1 : 0;
            }
            return many;
        }
    }

    /** A run: VISITS that go round the ring, INPUT and what was put. */
    private static final class House {
        private final Formulas formulas;
        private final Statements statements;
        private final Procs procs;
        private final Channels channels = new Channels();
        private final Ring ring = new Ring();
        private final Ints told = new Ints(PARTS);
        private final Ints inputs = new Ints(INPUTS);
        private final Ints outputs = new Ints(OUTPUTS);
        private int firstInput;
        int toRead;
        private int put;
        private int visits;
        private int acts;
        private int cursor;
        private int used;
        private int limit;
        int ended = NONE;

        House(Formulas formulas, Statements statements, Procs procs) {
            this.formulas = formulas;
            this.statements = statements;
            this.procs = procs;
        }

        void addInput(int number) {
            int at = firstInput + toRead;
            inputs.set(at >= INPUTS ? at - INPUTS : at, number);
            toRead++;
        }

        /** No run is under way any more. */
        void forget() {
            ended = NONE;
            put = 0;
            visits = 0;
            acts = 0;
            used = 0;
            ring.forget();
            channels.forget(1);
        }

        int begin(int rows, int cells) {
            forget();
            channels.forget(rows);
            limit = cells;
            int main = procs.find(MAIN);
            if (cellsOf(main) > limit) {
                ended = NO_MEMORY;
                return ended;
            }
            used = cellsOf(main);
            cursor = ring.join(main, procs.slots.get(main), procs.block.get(main));
            ended = GOING;
            return ended;
        }

        private int cellsOf(int proc) {
            return 4 + procs.slots.get(proc);
        }

        void visit() {
            int p = cursor;
            int s = ring.spot.get(p);
            visits++;
            if (s < 0) {
                used -= cellsOf(ring.proc.get(p));
                ring.leave(p);
                ended = ring.living == 0 ? FINISHED : GOING;
            } else if (act(p, s)) {
                acts++;
                ring.acts.set(p, ring.acts.get(p) + 1);
            }
            cursor = ring.nextOf(p);
        }

        /** Whether the ACT was done. */
        private boolean act(int p, int s) {
            switch (statements.kind.get(s)) {
                case SEND:
                case PASS:
                case PICK:
                    return say(p, s);
                case RECV:
                case TAKE:
                    return hear(p, s);
                case CASE:
                    return choose(p, s);
                case SPAWN:
                    return spawn(p, s);
                case BECOME:
                    return become(p, s);
                case IF:
                case WHILE:
                    return branch(p, s);
                case PUT:
                    return show(p, s);
                case GET:
                    return fetch(p, s);
                default:
                    return assign(p, s);
            }
        }

        private boolean work(int p, int from, int to) {
            if (formulas.work(from, to, ring.numbers, ring.base.get(p))) {
                return true;
            }
            ended = DIVIDED;
            return false;
        }

        private boolean goOn(int p, int s) {
            if (statements.closes.get(s) == 1) {
                close(p, statements.first.get(s));
            }
            ring.spot.set(p, statements.after.get(s));
            return true;
        }

        private void close(int p, int slot) {
            if (channels.close(ring.channel(p, slot))) {
                used -= channels.cellsOfOne();
            }
            ring.setChannel(p, slot, -1);
        }

        private boolean say(int p, int s) {
            int kind = statements.kind.get(s);
            int second = statements.second.get(s);
            int other = ring.channel(p, statements.first.get(s)) ^ 1;
            if (channels.isFull(other)) {
                return false;
            }
            if (kind == PICK) {
                channels.add(other, second);
            } else if (kind == PASS) {
                channels.add(other, ring.channel(p, second));
                ring.setChannel(p, second, -1);
            } else {
                if (!work(p, statements.from.get(s), statements.to.get(s))) {
                    return false;
                }
                channels.add(other, formulas.result);
            }
            return goOn(p, s);
        }

        private boolean hear(int p, int s) {
            int end = ring.channel(p, statements.first.get(s));
            if (channels.isEmpty(end)) {
                return false;
            }
            int message = channels.remove(end);
            if (statements.kind.get(s) == TAKE) {
                ring.setChannel(p, statements.second.get(s), message);
            } else {
                ring.setNumber(p, statements.second.get(s), message);
            }
            return goOn(p, s);
        }

        private boolean choose(int p, int s) {
            int slot = statements.first.get(s);
            int end = ring.channel(p, slot);
            if (channels.isEmpty(end)) {
                return false;
            }
            int chosen = statements.findBranch(s, channels.remove(end));
            if (statements.branchCloses.get(chosen) == 1) {
                close(p, slot);
            }
            ring.spot.set(p, statements.entry(s, chosen));
            return true;
        }

        private boolean branch(int p, int s) {
            if (!work(p, statements.from.get(s), statements.to.get(s))) {
                return false;
            }
            int chosen = statements.branch.get(s);
            if (formulas.result == 0) {
                chosen = statements.branchNext.get(chosen);
            }
            ring.spot.set(p, statements.entry(s, chosen));
            return true;
        }

        private boolean show(int p, int s) {
            if (!work(p, statements.from.get(s), statements.to.get(s))) {
                return false;
            }
            outputs.set(put, formulas.result);
            put++;
            return goOn(p, s);
        }

        private boolean fetch(int p, int s) {
            if (toRead == 0) {
                ended = NO_INPUT;
                return false;
            }
            ring.setNumber(p, statements.first.get(s), inputs.get(firstInput));
            firstInput = firstInput + 1 >= INPUTS ? 0 : firstInput + 1;
            toRead--;
            return goOn(p, s);
        }

        private boolean assign(int p, int s) {
            if (!work(p, statements.from.get(s), statements.to.get(s))) {
                return false;
            }
            ring.setNumber(p, statements.first.get(s), formulas.result);
            return goOn(p, s);
        }

        /** What the ARGUMENTS tell, into the row of what is told, ahead of any change. */
        private boolean tellAll(int p, int s, int proc, int skipped) {
            int from = statements.from.get(s);
            for (int i = from; i < statements.to.get(s); i++) {
                int k = skipped + i - from;
                if (procs.form(proc, k) >= 0) {
                    told.set(k, ring.channel(p, formulas.alone.get(i)));
                } else if (work(p, formulas.argumentFrom.get(i), formulas.argumentTo.get(i))) {
                    told.set(k, formulas.result);
                } else {
                    return false;
                }
            }
            return true;
        }

        private void handOver(int p, int proc, int first) {
            for (int k = first; k < procs.parameters.get(proc); k++) {
                if (procs.form(proc, k) >= 0) {
                    ring.setChannel(p, k, told.get(k));
                } else {
                    ring.setNumber(p, k, told.get(k));
                }
            }
        }

        private boolean claim(int more) {
            if (used + more > limit) {
                ended = NO_MEMORY;
                return false;
            }
            used += more;
            return true;
        }

        private boolean spawn(int p, int s) {
            int proc = procs.find(statements.second.get(s));
            int c = statements.first.get(s);
            int skipped = c >= 0 ? 1 : 0;
            boolean opens = c >= 0 && statements.closes.get(s) == 0;
            if (!tellAll(p, s, proc, skipped)
                    || !claim(cellsOf(proc) + (opens ? channels.cellsOfOne() : 0))) {
                return false;
            }
            int child = ring.join(proc, procs.slots.get(proc), procs.block.get(proc));
            handOver(child, proc, skipped);
            giveAway(p, s, proc, skipped);
            if (opens) {
                int end = channels.make();
                ring.setChannel(child, 0, end);
                ring.setChannel(p, c, end ^ 1);
            }
            ring.spot.set(p, statements.after.get(s));
            return true;
        }

        private void giveAway(int p, int s, int proc, int skipped) {
            int from = statements.from.get(s);
            for (int i = from; i < statements.to.get(s); i++) {
                if (procs.form(proc, skipped + i - from) >= 0) {
                    ring.setChannel(p, formulas.alone.get(i), -1);
                }
            }
        }

        private boolean become(int p, int s) {
            int proc = procs.find(statements.second.get(s));
            if (!tellAll(p, s, proc, 0) || !claim(cellsOf(proc) - cellsOf(ring.proc.get(p)))) {
                return false;
            }
            ring.become(p, proc, procs.slots.get(proc), procs.block.get(proc));
            handOver(p, proc, 0);
            return true;
        }

        int outputAt(int i) {
            return i >= 0 && i < put && i < OUTPUTS ? outputs.get(i) : 0;
        }

        int tally(int what) {
            switch (what) {
                case 0:
                    return visits;
                case 1:
                    return acts;
                case 2:
                    return ring.living;
                case 3:
                    return ring.made;
                case 4:
                    return used;
                case 5:
                    return channels.living;
                case 6:
                    return channels.waiting;
                case 7:
                    return put;
                case 8:
                    return toRead;
                default:
                    return -1;
            }
        }

        int tell(int k, int what, int j) {
            int p = ring.pick(k);
            if (p < 0) {
                return what == 0 ? -1 : 0;
            }
            switch (what) {
                case 0:
                    return ring.proc.get(p);
                case 1:
                    return ring.channels(p);
                case 2:
                    return ring.acts.get(p);
                case 3:
                    return j >= 0 && j < ring.slots.get(p) ? ring.numbers.get(ring.base.get(p) + j) : 0;
                default:
                    return 0;
            }
        }
    }
}
