import java.util.Arrays;

/** Loops over three small numbers: their states, runs, invariants and ends. README.md tells how to use it. */
public final class LoopInduction {
    public static final int NONE = -1;

    private static final int FAULTY = -2;
    private static final int ENDLESS = 5000;
    private static final int STILL_KEPT = 100;
    private static final int STATES = 4096;
    private static final int VARIABLES = 3;
    private static final int MOST_CHOICES = 6;
    private static final int MOST_GUESSES = 12;
    private static final int MOST_UNARIES = 100;
    private static final int MOST_NESTED = 8;
    private static final int MOST_INDUCTION = 16;

    private final Tape tape;
    private final Tokens tokens;
    private final Code code;
    private final Parser parser;
    private final Loop loop;
    private final Runs runs;
    private final Guesses guesses;
    private final Futures futures;
    private boolean loopGiven;
    private int faultPlace;

    public LoopInduction() {
        tape = new Tape();
        tokens = new Tokens(tape);
        code = new Code();
        parser = new Parser(tokens, code);
        Scratch scratch = new Scratch();
        loop = new Loop(scratch);
        runs = new Runs(loop, scratch);
        guesses = new Guesses(loop, scratch);
        futures = new Futures(loop, scratch);
        loopGiven = false;
        faultPlace = NONE;
    }

    public int feed(int a, int b, int c, int d, int e) {
        if (!tape.hasRoom()) {
            return NONE;
        }
        tape.add(a);
        tape.add(b);
        tape.add(c);
        tape.add(d);
        tape.add(e);
        return tape.size();
    }

    public int end(int n) {
        return tape.cut(n) ? tape.size() : NONE;
    }

    public int text() {
        tokens.readAll();
        tape.clear();
        if (!parser.readLoop()) {
            faultPlace = parser.currentPlace();
            return FAULTY;
        }
        faultPlace = NONE;
        loopGiven = true;
        loop.load(parser, code);
        runs.explore();
        guesses.sift();
        return 1;
    }

    public int place() {
        return faultPlace;
    }

    public int told(int what) {
        if (!loopGiven) {
            return NONE;
        }
        switch (what) {
            case 0:
                return loop.choices();
            case 1:
                return loop.guesses();
            case 2:
                return loop.unaries();
            case 3:
                return loop.isRanked() ? 1 : 0;
            default:
                return NONE;
        }
    }

    public int has(int s, int what) {
        if (!loopGiven || !isState(s) || what < 0 || what >= Loop.GUESS_BIT + loop.guesses()) {
            return NONE;
        }
        return loop.hasAll(s, 1 << what) ? 1 : 0;
    }

    public int next(int s, int i) {
        return loopGiven ? loop.turn(s, i) : NONE;
    }

    public int rank(int s) {
        if (!loopGiven || !loop.isRanked() || !isState(s)) {
            return NONE;
        }
        return loop.rankOf(s);
    }

    public int many(int what) {
        if (!loopGiven) {
            return NONE;
        }
        switch (what) {
            case 0:
                return loop.countWith(Loop.BEGINS);
            case 1:
                return loop.countWith(Loop.MEETS_GOAL);
            case 2:
                return loop.countWith(Loop.REACHED);
            case 3:
                return loop.countWith(Loop.REACHED | Loop.ENDS);
            case 4:
                return runs.greatestLevel();
            case 5:
                return runs.countPairs();
            case 6:
                return loop.countWith(guesses.keptFacts());
            default:
                return NONE;
        }
    }

    public int level(int s) {
        return loopGiven ? runs.levelOf(s) : NONE;
    }

    public int counter(int i) {
        return loopGiven ? runs.onPathToBad(i) : NONE;
    }

    public int induction(int strong) {
        if (!loopGiven || strong < 0 || strong > 1) {
            return NONE;
        }
        return guesses.leastInduction(strong == 1, runs.turnsToBad());
    }

    public int kept() {
        return loopGiven ? guesses.keptSum() : NONE;
    }

    public int gone(int i) {
        return loopGiven ? guesses.roundOf(i) : NONE;
    }

    public int follows() {
        if (!loopGiven) {
            return NONE;
        }
        return guesses.implyGoal() ? 1 : 0;
    }

    public int falls() {
        if (!loopGiven || !loop.isRanked()) {
            return NONE;
        }
        return runs.rankAlwaysFalls() ? 1 : 0;
    }

    public int longest() {
        return loopGiven ? runs.longestTurns() : NONE;
    }

    public int ask(int kind) {
        if (!loopGiven || kind < 0 || kind > 4) {
            return NONE;
        }
        tokens.readAll();
        tape.clear();
        if (!parser.readQuestion()) {
            return FAULTY;
        }
        code.tabulate(Code.BEGIN, futures.question());
        return futures.answer(kind);
    }

    private static boolean isState(int s) {
        return s >= 0 && s < STATES;
    }

    /** The bytes that have been fed since the latest reading. */
    private static final class Tape {
        static final int MOST = 1200;
        static final int PORTION = 20;
        static final int NO_BYTE = -1;

        private final byte[] bytes = new byte[MOST];
        private int size = 0;

        boolean hasRoom() {
            return size + PORTION <= MOST;
        }

        void add(int fourBytes) {
            for (int shift = 24; shift >= 0; shift -= 8) {
                if (size < bytes.length) {
                    bytes[size] = (byte) (fourBytes >>> shift);
                    size++;
                }
            }
        }

        boolean cut(int stay) {
            if (stay < 0 || stay > PORTION || size < PORTION) {
                return false;
            }
            size = size - PORTION + stay;
            return true;
        }

        void clear() {
            size = 0;
        }

        int size() {
            return size;
        }

        int byteAt(int i) {
            return i >= 0 && i < size && i < bytes.length ? bytes[i] & 255 : NO_BYTE;
        }
    }

    /** The tape's tokens. A sign's kind is its byte, so all other kinds lie above the bytes. */
    private static final class Tokens {
        static final int TEXT_END = 256;
        static final int STRANGE = 257;
        static final int NUMBER = 258;
        static final int VARIABLE = 259;
        static final int BEGIN = 260;
        static final int WHEN = 261;
        static final int DO = 262;
        static final int GOAL = 263;
        static final int GUESS = 264;
        static final int RANK = 265;
        static final int OR = 266;
        static final int AND = 267;
        static final int NOT = 268;
        private static final String SIGNS = ";,=<#+-*()[]";

        private final Tape tape;
        private final int[] kinds = new int[Tape.MOST + 1];
        private final int[] values = new int[Tape.MOST + 1];
        private final int[] places = new int[Tape.MOST + 1];
        private int count = 0;
        private int start = 0;
        private int stop = 0;

        Tokens(Tape tape) {
            this.tape = tape;
        }

        void readAll() {
            count = 0;
            stop = 0;
            skipBlanks();
            for (int n = 0; n < Tape.MOST && stop < tape.size(); n++) {
                readToken();
                skipBlanks();
            }
            start = stop;
            put(TEXT_END, 0);
        }

        int kindAt(int i) {
            return i >= 0 && i < count && i < kinds.length ? kinds[i] : TEXT_END;
        }

        int valueAt(int i) {
            return i >= 0 && i < count && i < values.length ? values[i] : 0;
        }

        int placeAt(int i) {
            return i >= 0 && i < count && i < places.length ? places[i] : 0;
        }

        private void put(int kind, int value) {
            if (count < kinds.length) {
                kinds[count] = kind;
                values[count] = value;
                places[count] = start;
                count++;
            }
        }

        private void skipBlanks() {
            while (stop < tape.size() && isBlank(tape.byteAt(stop))) {
                stop++;
            }
        }

        private void readToken() {
            start = stop;
            int first = tape.byteAt(start);
            if (isLetter(first)) {
                readWord();
            } else if (isDigit(first)) {
                readNumber();
            } else {
                stop++;
                put(SIGNS.indexOf((char) first) >= 0 ? first : STRANGE, 0);
            }
        }

        private void readWord() {
            while (stop < tape.size() && isLetter(tape.byteAt(stop))) {
                stop++;
            }
            int first = tape.byteAt(start);
            if (stop - start == 1 && first >= 'a' && first < 'a' + VARIABLES) {
                put(VARIABLE, first - 'a');
            } else {
                put(wordKind(), 0);
            }
        }

        private int wordKind() {
            if (spells("begin")) {
                return BEGIN;
            }
            if (spells("when")) {
                return WHEN;
            }
            if (spells("do")) {
                return DO;
            }
            if (spells("goal")) {
                return GOAL;
            }
            if (spells("guess")) {
                return GUESS;
            }
            if (spells("rank")) {
                return RANK;
            }
            if (spells("or")) {
                return OR;
            }
            if (spells("and")) {
                return AND;
            }
            return spells("not") ? NOT : STRANGE;
        }

        private boolean spells(String word) {
            if (stop - start != word.length()) {
                return false;
            }
            for (int i = 0; i < word.length(); i++) {
                if (tape.byteAt(start + i) != word.charAt(i)) {
                    return false;
                }
            }
            return true;
        }

        private void readNumber() {
            int number = 0;
            while (stop < tape.size() && isDigit(tape.byteAt(stop))) {
                // a long row of digits must not wrap around to a small number
                number = Math.min(number * 10 + tape.byteAt(stop) - '0', 100);
                stop++;
            }
            boolean zeroAhead = stop - start > 1 && tape.byteAt(start) == '0';
            put(zeroAhead || number > 15 ? STRANGE : NUMBER, number);
        }

        private static boolean isBlank(int b) {
            return b == ' ' || b == '\n';
        }

        private static boolean isLetter(int b) {
            return b >= 'a' && b <= 'z' || b >= 'A' && b <= 'Z';
        }

        private static boolean isDigit(int b) {
            return b >= '0' && b <= '9';
        }
    }

    /** The conds and exps of a text, each a section of steps in postfix order. */
    private static final class Code {
        static final int BEGIN = 0;
        static final int GOAL = 1;
        static final int RANK = 2;
        static final int GUESSES = 3;
        static final int CONDS = GUESSES + MOST_GUESSES;
        static final int EXPS = CONDS + MOST_CHOICES;
        static final int SECTIONS = EXPS + MOST_CHOICES * VARIABLES;
        static final int NEGATE = 300;
        private static final int FIRST_VARIABLE = 16;
        private static final int FIRST_OPERATION = FIRST_VARIABLE + VARIABLES;

        // a step is a number, a variable, or an operation under its token's kind
        private final int[] steps = new int[Tape.MOST];
        private final int[] starts = new int[SECTIONS];
        private final int[] stops = new int[SECTIONS];
        private final int[] usedBits = new int[SECTIONS];
        private final int[] stack = new int[MOST_UNARIES];
        private int size = 0;
        private int section = 0;
        private int height = 0;

        void clear() {
            size = 0;
            section = 0;
            Arrays.fill(starts, NONE);
            Arrays.fill(stops, NONE);
            Arrays.fill(usedBits, 0);
        }

        void open(int newSection) {
            if (newSection >= 0 && newSection < SECTIONS) {
                section = newSection;
                starts[section] = size;
            }
        }

        void close() {
            stops[section] = size;
        }

        boolean isTold(int asked) {
            return asked >= 0 && asked < SECTIONS && starts[asked] != NONE;
        }

        void addVariable(int variable) {
            usedBits[section] |= 15 << (4 * variable);
            add(FIRST_VARIABLE + variable);
        }

        void add(int step) {
            if (size < steps.length) {
                steps[size] = step;
                size++;
            }
        }

        /** The section's value in each STATE. */
        void tabulate(int asked, int[] row) {
            if (!isTold(asked)) {
                return;
            }
            int used = usedBits[asked];
            for (int s = 0; s < STATES && s < row.length; s++) {
                // a state that differs only in variables not used has been valued already
                int alike = s & used;
                row[s] = alike < s ? row[alike] : valueIn(s, starts[asked], stops[asked]);
            }
        }

        private int valueIn(int state, int from, int to) {
            height = 0;
            for (int n = from; n >= 0 && n < to && n < steps.length; n++) {
                int step = steps[n];
                if (step < FIRST_VARIABLE) {
                    push(step);
                } else if (step < FIRST_OPERATION) {
                    push((state >> (4 * (step - FIRST_VARIABLE))) & 15);
                } else if (step == NEGATE) {
                    push(-pop() & 15);
                } else if (step == Tokens.NOT) {
                    push(1 - pop());
                } else {
                    int right = pop();
                    push(joined(step, pop(), right));
                }
            }
            return pop();
        }

        private void push(int value) {
            if (height < stack.length) {
                stack[height] = value;
                height++;
            }
        }

        private int pop() {
            if (height <= 0) {
                return 0;
            }
            height--;
            return stack[height];
        }

        private static int joined(int operation, int left, int right) {
            switch (operation) {
                case '+':
                    return (left + right) & 15;
                case '-':
                    return (left - right) & 15;
                case '*':
                    return (left * right) & 15;
                case '<':
                    return left < right ? 1 : 0;
                case '=':
                    return left == right ? 1 : 0;
                case '#':
                    return left != right ? 1 : 0;
                case Tokens.AND:
                    return left & right;
                default:
                    return left | right;
            }
        }
    }

    /** Reads tokens into code. After a fault no token is taken, so the faulty one stays the current one. */
    private static final class Parser {
        private final Tokens tokens;
        private final Code code;
        private int current = 0;
        private boolean faulty = false;
        private int unaries = 0;
        private int choices = 0;
        private int guesses = 0;

        Parser(Tokens tokens, Code code) {
            this.tokens = tokens;
            this.code = code;
        }

        int unaries() {
            return unaries;
        }

        int choices() {
            return choices;
        }

        int guesses() {
            return guesses;
        }

        int currentPlace() {
            return tokens.placeAt(current);
        }

        boolean readLoop() {
            restart();
            expect(Tokens.BEGIN);
            readSection(Code.BEGIN);
            expect(';');
            for (choices = 0; choices < MOST_CHOICES && takes(Tokens.WHEN); choices++) {
                readSection(Code.CONDS + choices);
                expect(Tokens.DO);
                readAssignments(choices);
                expect(';');
            }
            if (choices == 0) {
                faulty = true;
            }
            expect(Tokens.GOAL);
            readSection(Code.GOAL);
            expect(';');
            for (guesses = 0; guesses < MOST_GUESSES && takes(Tokens.GUESS); guesses++) {
                readSection(Code.GUESSES + guesses);
                expect(';');
            }
            if (takes(Tokens.RANK)) {
                code.open(Code.RANK);
                readExp(0);
                code.close();
                expect(';');
            }
            expect(Tokens.TEXT_END);
            return !faulty;
        }

        /** Reads a cond that stands alone, as the section of begin. */
        boolean readQuestion() {
            restart();
            readSection(Code.BEGIN);
            expect(Tokens.TEXT_END);
            return !faulty;
        }

        private void restart() {
            code.clear();
            current = 0;
            faulty = false;
            unaries = 0;
        }

        private boolean takes(int kind) {
            if (faulty || tokens.kindAt(current) != kind) {
                return false;
            }
            current++;
            return true;
        }

        private void expect(int kind) {
            if (!takes(kind)) {
                faulty = true;
            }
        }

        /** Too deep, nothing takes an opening token, which makes it the fault. */
        private boolean opens(int kind, int depth) {
            boolean fits = !faulty && depth < MOST_NESTED && tokens.kindAt(current) == kind;
            if (fits) {
                current++;
            }
            return fits;
        }

        private void readAssignments(int choice) {
            readAssignment(choice);
            // one more than there are variables, for it must be read to be refused
            for (int n = 0; n < VARIABLES && takes(','); n++) {
                readAssignment(choice);
            }
        }

        private void readAssignment(int choice) {
            int section = Code.EXPS + choice * VARIABLES + tokens.valueAt(current);
            if (code.isTold(section)) {
                faulty = true;
            }
            expect(Tokens.VARIABLE);
            expect('=');
            if (!faulty) {
                code.open(section);
                readExp(0);
                code.close();
            }
        }

        private void readSection(int section) {
            code.open(section);
            readCond(0);
            code.close();
        }

        private void readCond(int depth) {
            readConj(depth);
            for (int n = 0; n < Tape.MOST && takes(Tokens.OR); n++) {
                readConj(depth);
                code.add(Tokens.OR);
            }
        }

        private void readConj(int depth) {
            readPrim(depth);
            for (int n = 0; n < Tape.MOST && takes(Tokens.AND); n++) {
                readPrim(depth);
                code.add(Tokens.AND);
            }
        }

        private void readPrim(int depth) {
            if (opens(Tokens.NOT, depth)) {
                readPrim(depth + 1);
                code.add(Tokens.NOT);
            } else if (opens('[', depth)) {
                readCond(depth + 1);
                expect(']');
            } else {
                readExp(depth);
                int relation = tokens.kindAt(current);
                if (!takes('<') && !takes('#')) {
                    expect('=');
                }
                readExp(depth);
                code.add(relation);
            }
        }

        private void readExp(int depth) {
            readTerm(depth);
            int sign = tokens.kindAt(current);
            for (int n = 0; n < Tape.MOST && (takes('+') || takes('-')); n++) {
                readTerm(depth);
                code.add(sign);
                sign = tokens.kindAt(current);
            }
        }

        private void readTerm(int depth) {
            readUnary(depth);
            for (int n = 0; n < Tape.MOST && takes('*'); n++) {
                readUnary(depth);
                code.add('*');
            }
        }

        private void readUnary(int depth) {
            if (unaries >= MOST_UNARIES) {
                faulty = true;
            }
            unaries++;
            if (opens('-', depth)) {
                readUnary(depth + 1);
                code.add(Code.NEGATE);
            } else if (opens('(', depth)) {
                readExp(depth + 1);
                expect(')');
            } else if (takes(Tokens.VARIABLE)) {
                code.addVariable(tokens.valueAt(current - 1));
            } else {
                expect(Tokens.NUMBER);
                code.add(tokens.valueAt(current - 1));
            }
        }
    }

    /** STATES in the order in which a search comes to them, each put once. */
    private static final class Worklist {
        private final int[] items = new int[STATES];
        private int size = 0;

        void clear() {
            size = 0;
        }

        void put(int s) {
            if (size < items.length) {
                items[size] = s;
                size++;
            }
        }

        int size() {
            return size;
        }

        int item(int n) {
            return n >= 0 && n < size && n < items.length ? items[n] : 0;
        }
    }

    /** Rows that every search fills anew, so that no call makes any. */
    private static final class Scratch {
        private final int[] one = new int[STATES];
        private final int[] two = new int[STATES];
        private final Worklist work = new Worklist();

        int[] one() {
            return one;
        }

        int[] two() {
            return two;
        }

        Worklist work() {
            return work;
        }
    }

    /** What is known of each STATE, and the TURNS in both directions. */
    private static final class Loop {
        static final int GUESS_BIT = 4;
        static final int RANK_BIT = GUESS_BIT + MOST_GUESSES;
        // the bits stand where has() counts them
        static final int BEGINS = 1;
        static final int MEETS_GOAL = 2;
        static final int REACHED = 4;
        static final int ENDS = 8;

        private final int[] facts = new int[STATES];
        private final int[] turns = new int[STATES * MOST_CHOICES];
        // the sources of s stand from firstSources[s] up to firstSources[s + 1]
        private final int[] firstSources = new int[STATES + 1];
        private final int[] sources = new int[STATES * MOST_CHOICES];
        private final int[] row;
        private int choices = 0;
        private int guesses = 0;
        private int unaries = 0;
        private boolean ranked = false;

        Loop(Scratch scratch) {
            row = scratch.one();
        }

        int choices() {
            return choices;
        }

        int guesses() {
            return guesses;
        }

        int unaries() {
            return unaries;
        }

        boolean isRanked() {
            return ranked;
        }

        boolean hasAll(int s, int wanted) {
            return isState(s) && (facts[s] & wanted) == wanted;
        }

        void markReached(int s) {
            if (isState(s)) {
                facts[s] |= REACHED;
            }
        }

        int guessesOf(int s) {
            return isState(s) ? (facts[s] >> GUESS_BIT) & ((1 << MOST_GUESSES) - 1) : 0;
        }

        int rankOf(int s) {
            return isState(s) ? (facts[s] >> RANK_BIT) & 15 : 0;
        }

        int turn(int s, int choice) {
            if (!isState(s) || choice < 0 || choice >= choices || choice >= MOST_CHOICES) {
                return NONE;
            }
            return turns[choice * STATES + s];
        }

        int firstSource(int s) {
            return isState(s) ? firstSources[s] : 0;
        }

        int lastSource(int s) {
            return isState(s) ? firstSources[s + 1] - 1 : NONE;
        }

        int sourceAt(int n) {
            return n >= 0 && n < sources.length ? sources[n] : 0;
        }

        int countWith(int wanted) {
            int count = 0;
            for (int s = 0; s < STATES; s++) {
                if (hasAll(s, wanted)) {
                    count++;
                }
            }
            return count;
        }

        void countTurns(int[] counts) {
            for (int s = 0; s < STATES && s < counts.length; s++) {
                counts[s] = 0;
                for (int i = 0; i < choices; i++) {
                    if (turn(s, i) != NONE) {
                        counts[s]++;
                    }
                }
            }
        }

        void load(Parser parser, Code code) {
            choices = parser.choices();
            guesses = parser.guesses();
            unaries = parser.unaries();
            ranked = code.isTold(Code.RANK);
            Arrays.fill(facts, 0);
            loadFact(code, Code.BEGIN, 0);
            loadFact(code, Code.GOAL, 1);
            for (int i = 0; i < guesses; i++) {
                loadFact(code, Code.GUESSES + i, GUESS_BIT + i);
            }
            loadFact(code, Code.RANK, RANK_BIT);
            for (int i = 0; i < choices; i++) {
                loadChoice(code, i);
            }
            markEnds();
            linkSources();
        }

        private void loadFact(Code code, int section, int bit) {
            if (!code.isTold(section)) {
                return;
            }
            code.tabulate(section, row);
            for (int s = 0; s < STATES; s++) {
                facts[s] |= row[s] << bit;
            }
        }

        private void loadChoice(Code code, int choice) {
            if (choice < 0 || choice >= MOST_CHOICES) {
                return;
            }
            int base = choice * STATES;
            for (int s = 0; s < STATES; s++) {
                turns[base + s] = s;
            }
            for (int v = 0; v < VARIABLES; v++) {
                loadAssignment(code, choice, v);
            }
            code.tabulate(Code.CONDS + choice, row);
            for (int s = 0; s < STATES; s++) {
                if (row[s] == 0) {
                    turns[base + s] = NONE;
                }
            }
        }

        private void loadAssignment(Code code, int choice, int variable) {
            int section = Code.EXPS + choice * VARIABLES + variable;
            if (!code.isTold(section)) {
                return;
            }
            code.tabulate(section, row);
            int base = choice * STATES;
            int shift = 4 * variable;
            for (int s = 0; s < STATES; s++) {
                turns[base + s] = (turns[base + s] & ~(15 << shift)) | (row[s] << shift);
            }
        }

        private void markEnds() {
            countTurns(row);
            for (int s = 0; s < STATES; s++) {
                if (row[s] == 0) {
                    facts[s] |= ENDS;
                }
            }
        }

        private void linkSources() {
            Arrays.fill(firstSources, 0);
            for (int s = 0; s < STATES; s++) {
                for (int i = 0; i < choices; i++) {
                    int t = turn(s, i);
                    if (isState(t)) {
                        firstSources[t]++;
                    }
                }
            }
            for (int s = 0; s < STATES; s++) {
                firstSources[s + 1] += firstSources[s];
            }
            // each place is counted down to its first source as the sources are put in
            for (int s = STATES - 1; s >= 0; s--) {
                for (int i = 0; i < choices; i++) {
                    putSource(s, turn(s, i));
                }
            }
        }

        private void putSource(int s, int t) {
            if (!isState(t)) {
                return;
            }
            int last = firstSources[t] - 1;
            if (last >= 0 && last < sources.length) {
                firstSources[t] = last;
                sources[last] = s;
            }
        }
    }

    /** LEVELS, the shortest RUN to a STATE without the goal, and what holds along RUNS. */
    private static final class Runs {
        private final Loop loop;
        private final int[] levels = new int[STATES];
        private final int[] path = new int[STATES];
        private final int[] one;
        private final int[] two;
        private final Worklist work;
        private int reached = 0;
        private int greatestLevel = NONE;
        private int pathSize = 0;

        Runs(Loop loop, Scratch scratch) {
            this.loop = loop;
            one = scratch.one();
            two = scratch.two();
            work = scratch.work();
        }

        void explore() {
            findLevels();
            measureToBad();
            findPath();
        }

        int greatestLevel() {
            return greatestLevel;
        }

        int levelOf(int s) {
            return isState(s) ? levels[s] : NONE;
        }

        int onPathToBad(int i) {
            return i >= 0 && i < pathSize && i < path.length ? path[i] : NONE;
        }

        /** TURNS to the nearest REACHED STATE without the goal, or NONE. */
        int turnsToBad() {
            return pathSize - 1;
        }

        private void findLevels() {
            Arrays.fill(levels, NONE);
            work.clear();
            for (int s = 0; s < STATES; s++) {
                if (loop.hasAll(s, Loop.BEGINS)) {
                    reach(s, 0);
                }
            }
            for (int n = 0; n < STATES && n < work.size(); n++) {
                int s = work.item(n);
                for (int i = 0; i < loop.choices(); i++) {
                    reach(loop.turn(s, i), levelOf(s) + 1);
                }
            }
            reached = work.size();
            greatestLevel = reached > 0 ? levelOf(work.item(reached - 1)) : NONE;
        }

        private void reach(int s, int newLevel) {
            if (isState(s) && levels[s] == NONE) {
                levels[s] = newLevel;
                loop.markReached(s);
                work.put(s);
            }
        }

        /** Fills row one with the TURNS that each STATE needs at least to come to one without the goal. */
        private void measureToBad() {
            work.clear();
            for (int s = 0; s < STATES; s++) {
                one[s] = NONE;
                if (!loop.hasAll(s, Loop.MEETS_GOAL)) {
                    one[s] = 0;
                    work.put(s);
                }
            }
            for (int n = 0; n < STATES && n < work.size(); n++) {
                int t = work.item(n);
                int last = loop.lastSource(t);
                for (int k = loop.firstSource(t); k <= last; k++) {
                    measureSource(loop.sourceAt(k), t);
                }
            }
        }

        private void measureSource(int s, int t) {
            if (isState(s) && isState(t) && one[s] == NONE) {
                one[s] = one[t] + 1;
                work.put(s);
            }
        }

        private void findPath() {
            pathSize = 0;
            int s = bestBegin();
            for (int n = 0; n < STATES && isState(s); n++) {
                path[n] = s;
                pathSize = n + 1;
                s = bestTurn(s);
            }
        }

        private int bestBegin() {
            int best = NONE;
            int least = STATES;
            for (int s = 0; s < STATES; s++) {
                if (loop.hasAll(s, Loop.BEGINS) && one[s] != NONE && one[s] < least) {
                    best = s;
                    least = one[s];
                }
            }
            return best;
        }

        private int bestTurn(int s) {
            int best = NONE;
            if (!isState(s) || one[s] <= 0) {
                return best;
            }
            for (int i = 0; i < loop.choices(); i++) {
                int t = loop.turn(s, i);
                if (isState(t) && one[t] == one[s] - 1 && (best == NONE || t < best)) {
                    best = t;
                }
            }
            return best;
        }

        int countPairs() {
            int count = 0;
            for (int s = 0; s < STATES; s++) {
                if (loop.hasAll(s, Loop.REACHED)) {
                    count += countTargets(s);
                }
            }
            return count;
        }

        private int countTargets(int s) {
            int count = 0;
            for (int i = 0; i < loop.choices(); i++) {
                if (loop.turn(s, i) != NONE && isNewTarget(s, i)) {
                    count++;
                }
            }
            return count;
        }

        private boolean isNewTarget(int s, int choice) {
            int t = loop.turn(s, choice);
            for (int i = 0; i < choice; i++) {
                if (loop.turn(s, i) == t) {
                    return false;
                }
            }
            return true;
        }

        boolean rankAlwaysFalls() {
            for (int s = 0; s < STATES; s++) {
                if (loop.hasAll(s, Loop.REACHED) && !rankFallsFrom(s)) {
                    return false;
                }
            }
            return true;
        }

        private boolean rankFallsFrom(int s) {
            int before = loop.rankOf(s);
            for (int i = 0; i < loop.choices(); i++) {
                int t = loop.turn(s, i);
                if (t != NONE && loop.rankOf(t) >= before) {
                    return false;
                }
            }
            return true;
        }

        /** Takes REACHED STATES once all TURNS to them are taken; on a circle none ever is. */
        int longestTurns() {
            if (reached == 0) {
                return NONE;
            }
            countArrivals();
            Arrays.fill(two, 0);
            work.clear();
            for (int s = 0; s < STATES; s++) {
                if (loop.hasAll(s, Loop.REACHED) && one[s] == 0) {
                    work.put(s);
                }
            }
            int most = 0;
            for (int n = 0; n < STATES && n < work.size(); n++) {
                most = Math.max(most, leave(work.item(n)));
            }
            return work.size() < reached ? ENDLESS : most;
        }

        /** Fills row one with the number of TURNS from REACHED STATES to each. */
        private void countArrivals() {
            Arrays.fill(one, 0);
            for (int s = 0; s < STATES; s++) {
                for (int i = 0; i < loop.choices(); i++) {
                    int t = loop.turn(s, i);
                    if (isState(t) && loop.hasAll(s, Loop.REACHED)) {
                        one[t]++;
                    }
                }
            }
        }

        private int leave(int s) {
            if (!isState(s)) {
                return 0;
            }
            for (int i = 0; i < loop.choices(); i++) {
                int t = loop.turn(s, i);
                if (isState(t)) {
                    two[t] = Math.max(two[t], two[s] + 1);
                    one[t]--;
                    if (one[t] == 0) {
                        work.put(t);
                    }
                }
            }
            return two[s];
        }
    }

    /** Which guesses are KEPT, and what they prove of the goal. */
    private static final class Guesses {
        private final Loop loop;
        private final int[] rounds = new int[MOST_GUESSES];
        private final int[] one;
        private final int[] two;
        private int left = 0;

        Guesses(Loop loop, Scratch scratch) {
            this.loop = loop;
            one = scratch.one();
            two = scratch.two();
        }

        int keptSum() {
            return left;
        }

        int keptFacts() {
            return left << Loop.GUESS_BIT;
        }

        int roundOf(int i) {
            return i >= 0 && i < loop.guesses() && i < rounds.length ? rounds[i] : NONE;
        }

        void sift() {
            Arrays.fill(rounds, STILL_KEPT);
            left = (1 << loop.guesses()) - 1;
            dismiss(lackedAtBegin(), 0);
            int lacked = lackedBehindTurns();
            for (int round = 1; round <= MOST_GUESSES && lacked != 0; round++) {
                dismiss(lacked, round);
                lacked = lackedBehindTurns();
            }
        }

        private void dismiss(int lacked, int round) {
            left &= ~lacked;
            for (int i = 0; i < MOST_GUESSES; i++) {
                if ((lacked >> i & 1) == 1) {
                    rounds[i] = round;
                }
            }
        }

        private int lackedAtBegin() {
            int lacked = 0;
            for (int s = 0; s < STATES; s++) {
                if (loop.hasAll(s, Loop.BEGINS)) {
                    lacked |= left & ~loop.guessesOf(s);
                }
            }
            return lacked;
        }

        private int lackedBehindTurns() {
            int lacked = 0;
            for (int s = 0; s < STATES; s++) {
                if (loop.hasAll(s, keptFacts())) {
                    lacked |= lackedBehind(s);
                }
            }
            return lacked;
        }

        private int lackedBehind(int s) {
            int lacked = 0;
            for (int i = 0; i < loop.choices(); i++) {
                int t = loop.turn(s, i);
                if (t != NONE) {
                    lacked |= left & ~loop.guessesOf(t);
                }
            }
            return lacked;
        }

        boolean implyGoal() {
            return loop.countWith(keptFacts()) == loop.countWith(keptFacts() | Loop.MEETS_GOAL);
        }

        /** The least k; turnsToBad is NONE if no REACHED STATE is without the goal. */
        int leastInduction(boolean strongly, int turnsToBad) {
            int wanted = strongly ? Loop.MEETS_GOAL | keptFacts() : Loop.MEETS_GOAL;
            for (int s = 0; s < STATES; s++) {
                one[s] = loop.hasAll(s, Loop.MEETS_GOAL) ? 0 : 1;
            }
            for (int k = 1; k <= MOST_INDUCTION; k++) {
                if (turnsToBad != NONE && turnsToBad < k) {
                    return 0;
                }
                if (!stepBack(wanted)) {
                    return k;
                }
            }
            return 0;
        }

        /** Row one comes to mark the STATES with what is wanted from which a TURN led to a marked one: is there any? */
        private boolean stepBack(int wanted) {
            boolean any = false;
            for (int s = 0; s < STATES; s++) {
                two[s] = loop.hasAll(s, wanted) && leadsToMarked(s) ? 1 : 0;
                any = any || two[s] == 1;
            }
            System.arraycopy(two, 0, one, 0, STATES);
            return any;
        }

        private boolean leadsToMarked(int s) {
            for (int i = 0; i < loop.choices(); i++) {
                int t = loop.turn(s, i);
                if (isState(t) && one[t] == 1) {
                    return true;
                }
            }
            return false;
        }
    }

    /** From which STATES some TURNS, or all, lead to one that has what is asked. */
    private static final class Futures {
        private final Loop loop;
        private final int[] marks;
        private final int[] open;
        private final Worklist work;

        Futures(Loop loop, Scratch scratch) {
            this.loop = loop;
            marks = scratch.one();
            open = scratch.two();
            work = scratch.work();
        }

        /** The row in which the caller writes 1 for each STATE that has the cond, else 0. */
        int[] question() {
            return marks;
        }

        int answer(int kind) {
            switch (kind) {
                case 0:
                    return countMarked(0);
                case 1:
                    return countMarked(Loop.REACHED);
                case 2:
                    return countLeading(false);
                case 3:
                    return countLeading(true);
                case 4:
                    turnMarks();
                    return STATES - countLeading(false);
                default:
                    return NONE;
            }
        }

        private int countMarked(int wanted) {
            int count = 0;
            for (int s = 0; s < STATES; s++) {
                if (marks[s] == 1 && loop.hasAll(s, wanted)) {
                    count++;
                }
            }
            return count;
        }

        private void turnMarks() {
            for (int s = 0; s < STATES; s++) {
                marks[s] = 1 - marks[s];
            }
        }

        /** How many STATES lead to a marked one, by some TURNS or however they go. */
        private int countLeading(boolean always) {
            loop.countTurns(open);
            work.clear();
            for (int s = 0; s < STATES; s++) {
                if (marks[s] == 1) {
                    work.put(s);
                }
            }
            for (int n = 0; n < STATES && n < work.size(); n++) {
                int t = work.item(n);
                int last = loop.lastSource(t);
                for (int k = loop.firstSource(t); k <= last; k++) {
                    markSource(loop.sourceAt(k), always);
                }
            }
            return work.size();
        }

        private void markSource(int s, boolean always) {
            if (!isState(s)) {
                return;
            }
            open[s]--;
            if (marks[s] == 0 && (!always || open[s] == 0)) {
                marks[s] = 1;
                work.put(s);
            }
        }
    }
}
