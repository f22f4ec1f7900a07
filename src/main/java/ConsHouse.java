/** A house for a language of lists: it reads a text, evaluates its expressions and prints their values. */
public final class ConsHouse {
    public static final int NONE = -1;

    private static final int TEXT_LIMIT = 2000;
    private static final int PRINT_LIMIT = 400;
    private static final int NAME_LIMIT = 150;
    private static final int OPEN_LIMIT = 60;
    private static final int VALUE_LIMIT = 8;
    private static final int LETTER_LIMIT = 12;
    private static final int DIGIT_LIMIT = 9;

    private static final int UNBOUND = 1;
    private static final int WRONG_KIND = 2;
    private static final int WRONG_FORM = 3;
    private static final int NO_FUNCTION = 4;
    private static final int NO_CHOICE = 5;
    private static final int NO_CELLS = 6;
    private static final int NO_TASKS = 7;
    private static final int NO_STEPS = 8;
    private static final int NO_NAMES = 9;
    private static final int UNREADABLE = 10;

    // An object is one long: a number is itself; names, pairs and signs stand above all ints.
    private static final long NAME_BASE = 1L << 40;
    private static final long PAIR_BASE = 2L << 40;
    private static final long SIGN_BASE = 3L << 40;

    private static final long OPEN_SIGN = SIGN_BASE;
    private static final long CLOSE_SIGN = SIGN_BASE + 1;
    private static final long DOT_SIGN = SIGN_BASE + 2;
    private static final long ABSENT = SIGN_BASE + 3;

    // The order is that of the numbers below; each name ends with a blank.
    private static final String FIRST_NAMES =
        "NIL T QUOTE COND DEFINE LAMBDA LABEL CAR CDR CONS ATOM EQ NULL NUMBERP PLUS DIFFERENCE TIMES LESSP ";

    private static final long NIL = NAME_BASE;
    private static final long T = NAME_BASE + 1;
    private static final long QUOTE = NAME_BASE + 2;
    private static final long COND = NAME_BASE + 3;
    private static final long DEFINE = NAME_BASE + 4;
    private static final long LAMBDA = NAME_BASE + 5;
    private static final long LABEL = NAME_BASE + 6;

    private static final int CAR = 7;
    private static final int CDR = 8;
    private static final int CONS = 9;
    private static final int ATOM = 10;
    private static final int EQ = 11;
    private static final int NULL = 12;
    private static final int NUMBERP = 13;
    private static final int PLUS = 14;
    private static final int DIFFERENCE = 15;
    private static final int TIMES = 16;
    private static final int LESSP = 17;

    private final Text text;
    private final Names names;
    private final Waiting waiting;
    private final Keeper keeper;
    private final Reader reader;
    private final Machine machine;
    private final Printer printer;
    private int latestFault;

    public ConsHouse(int cells, int tasks, int steps) {
        Heap heap = new Heap(within(cells, 16, 1000, 300));
        text = new Text();
        names = new Names();
        waiting = new Waiting(within(tasks, 4, 200, 100));
        keeper = new Keeper(heap, names, waiting);
        reader = new Reader(text, names, heap, keeper);
        machine = new Machine(heap, names, waiting, keeper, within(steps, 10, 20000, 5000));
        printer = new Printer(heap, names);
        latestFault = 0;
    }

    private static int within(int wished, int least, int most, int usual) {
        return wished < least || wished > most ? usual : wished;
    }

    public boolean write(long eight) {
        return text.append(eight);
    }

    public void clear() {
        text.length = 0;
        text.position = 0;
        text.faultPlace = NONE;
    }

    public int next() throws IllegalArgumentException, IllegalStateException {
        printer.length = 0;
        machine.steps = 0;
        waiting.depth = 0;
        waiting.greatest = 0;
        latestFault = 0;
        text.faultPlace = NONE;
        text.position = text.behindBlanks(text.position);
        if (text.position >= text.length) {
            return 0;
        }
        latestFault = reader.read();
        if (latestFault == UNREADABLE) {
            throw new IllegalArgumentException("a fault of reading");
        }
        if (latestFault == 0) {
            latestFault = machine.evaluate(reader.expression);
        }
        if (latestFault != 0) {
            throw new IllegalStateException("a fault of evaluating");
        }
        printer.print(machine.result);
        return 1;
    }

    public int fault() {
        return latestFault;
    }

    public int place() {
        return text.faultPlace == NONE ? text.position : text.faultPlace;
    }

    public int size() {
        return printer.length;
    }

    public int out(int k) {
        return k < 0 || k >= printer.length ? NONE : printer.printed[k];
    }

    public int count(int what) {
        switch (what) {
            case 0:
                return machine.steps;
            case 1:
                return keeper.pairsOfGlobals();
            case 2:
                return names.total;
            case 3:
                return waiting.greatest;
            default:
                return NONE;
        }
    }

    /** Tells the kinds of objects apart. */
    private static final class Word {
        static boolean isNumber(long word) {
            return word < NAME_BASE;
        }

        static boolean isName(long word) {
            return word >= NAME_BASE && word < PAIR_BASE;
        }

        static boolean isPair(long word) {
            return word >= PAIR_BASE && word < SIGN_BASE;
        }

        /** Whether an atom stands for itself always, whatever is bound to it. */
        static boolean isFixed(long atom) {
            return isNumber(atom) || atom == NIL || atom == T;
        }
    }

    /** The text, and where reading stands in it. */
    private static final class Text {
        static final int BEHIND = -1;

        final char[] characters = new char[TEXT_LIMIT];
        int length = 0;
        int position = 0;
        int faultPlace = NONE;

        /** What is refused may leave characters behind the length, where nobody looks. */
        boolean append(long eight) {
            int end = length;
            for (int shift = 56; shift >= 0; shift -= 8) {
                int character = (int) (eight >>> shift) & 255;
                if (character == 0) {
                    continue;
                }
                if (!isCharacter(character) || end >= TEXT_LIMIT) {
                    return false;
                }
                characters[end] = (char) character;
                end++;
            }
            length = end;
            return true;
        }

        private static boolean isCharacter(int code) {
            return code == 10 || code >= 32 && code <= 126;
        }

        int at(int place) {
            return place < 0 || place >= length ? BEHIND : characters[place];
        }

        int behindBlanks(int from) {
            int place = from;
            while (place < length && (at(place) == ' ' || at(place) == 10)) {
                place++;
            }
            return place;
        }
    }

    /** The names, each spelled as one long, and their globals. */
    private static final class Names {
        // Twelve digits of this base, none of them 0, fit into a long and tell every name from every other.
        static final int BASE = 37;

        final long[] spelled = new long[NAME_LIMIT];
        final long[] globals = new long[NAME_LIMIT];
        int total = 0;
        boolean crowded = false;

        Names() {
            for (int k = 0; k < NAME_LIMIT; k++) {
                globals[k] = ABSENT;
            }
            long spelling = 0;
            for (int k = 0; k < FIRST_NAMES.length(); k++) {
                int digit = digitOf(FIRST_NAMES.charAt(k));
                if (digit == 0) {
                    wordOf(spelling);
                    spelling = 0;
                } else {
                    spelling = spelling * BASE + digit;
                }
            }
        }

        /** 1 to 26 for letters, 27 to 36 for digits, 0 for what no name has. */
        static int digitOf(int character) {
            if (character >= 'A' && character <= 'Z') {
                return character - 'A' + 1;
            }
            return character >= '0' && character <= '9' ? character - '0' + 27 : 0;
        }

        static char characterOf(int digit) {
            return (char) (digit < 27 ? 'A' + digit - 1 : '0' + digit - 27);
        }

        /** The name of this spelling, which is new if need be; without room for it the row is crowded. */
        long wordOf(long spelling) {
            for (int k = 0; k < total; k++) {
                if (spelled[k] == spelling) {
                    return NAME_BASE + k;
                }
            }
            if (total >= NAME_LIMIT) {
                crowded = true;
                return NIL;
            }
            spelled[total] = spelling;
            total++;
            return NAME_BASE + total - 1;
        }

        long spellingOf(long name) {
            return isKnown(name) ? spelled[(int) (name - NAME_BASE)] : 0;
        }

        long globalOf(long name) {
            return isKnown(name) ? globals[(int) (name - NAME_BASE)] : ABSENT;
        }

        void makeGlobal(long name, long value) {
            if (isKnown(name)) {
                globals[(int) (name - NAME_BASE)] = value;
            }
        }

        private boolean isKnown(long name) {
            return name >= NAME_BASE && name < NAME_BASE + total;
        }
    }

    /** The pairs. */
    private static final class Heap {
        final long[] cars;
        final long[] cdrs;
        // A pair is marked when its mark is the round's number, so that no round has marks to take away.
        final int[] marks;
        final long[] pending;
        final int[] free;
        int freeCount;
        int round = 0;
        int markedCount = 0;

        Heap(int cells) {
            cars = new long[cells];
            cdrs = new long[cells];
            marks = new int[cells];
            pending = new long[cells + 1];
            free = new int[cells];
            freeCount = cells;
            for (int cell = 0; cell < cells; cell++) {
                free[cell] = cell;
            }
        }

        /** The cell of a pair, -1 for all other words. */
        private int cellOf(long word) {
            return word >= PAIR_BASE && word < PAIR_BASE + cars.length ? (int) (word - PAIR_BASE) : -1;
        }

        /** The CAR of a pair; NIL for an atom, so that forms may be looked into before they are tested. */
        long car(long word) {
            int cell = cellOf(word);
            return cell < 0 ? NIL : cars[cell];
        }

        long cdr(long word) {
            int cell = cellOf(word);
            return cell < 0 ? NIL : cdrs[cell];
        }

        void setCdr(long pair, long value) {
            int cell = cellOf(pair);
            if (cell >= 0) {
                cdrs[cell] = value;
            }
        }

        /** A new pair; the caller has seen to it that a cell is free. */
        long newPair(long car, long cdr) {
            if (freeCount <= 0) {
                return NIL;
            }
            freeCount--;
            int cell = free[freeCount];
            cars[cell] = car;
            cdrs[cell] = cdr;
            return PAIR_BASE + cell;
        }

        boolean isListOf(long list, int length) {
            long rest = list;
            for (int k = 0; k < length; k++) {
                if (!Word.isPair(rest)) {
                    return false;
                }
                rest = cdr(rest);
            }
            return rest == NIL;
        }

        boolean isListOfNames(long list, int length) {
            long rest = list;
            for (int k = 0; k < length; k++) {
                if (!Word.isPair(rest) || !Word.isName(car(rest))) {
                    return false;
                }
                rest = cdr(rest);
            }
            return rest == NIL;
        }

        void beginMarking() {
            round++;
            markedCount = 0;
        }

        /** Marks all pairs that can be come to from the roots. A pair leaves two words pending where it was one. */
        void mark(long[] roots, int length) {
            for (int k = 0; k < length && k < roots.length; k++) {
                pending[0] = roots[k];
                int count = 1;
                for (int turn = 0; turn <= 2 * cars.length && count > 0; turn++) {
                    count--;
                    long word = pending[count];
                    boolean isCell = word >= PAIR_BASE && word < PAIR_BASE + cars.length;
                    int cell = isCell ? (int) (word - PAIR_BASE) : 0;
                    if (isCell && marks[cell] != round && count + 1 < pending.length) {
                        marks[cell] = round;
                        markedCount++;
                        pending[count] = cdrs[cell];
                        pending[count + 1] = cars[cell];
                        count += 2;
                    }
                }
            }
        }

        void sweep() {
            freeCount = 0;
            for (int cell = 0; cell < cars.length; cell++) {
                if (marks[cell] != round) {
                    free[freeCount] = cell;
                    freeCount++;
                }
            }
        }
    }

    /** What waits: a row of frames, each of them as wide as its parts and eight values. */
    private static final class Waiting {
        static final int CALL = 0;
        static final int CHOICE = 1;
        static final int APPLYING = 2;

        static final int FUNCTION = 0;
        static final int REST = 1;
        static final int BINDINGS = 2;
        static final int FIRST_VALUE = 3;
        static final int WIDTH = FIRST_VALUE + VALUE_LIMIT;

        final int[] kinds;
        final int[] valueCounts;
        final long[] words;
        int depth = 0;
        int greatest = 0;

        Waiting(int tasks) {
            kinds = new int[tasks];
            valueCounts = new int[tasks];
            words = new long[tasks * WIDTH];
        }

        /** Whether one more can wait; it does then. Words that it does not use are NIL, so that they hold nothing. */
        boolean push(int kind, long function, long rest, long bindings) {
            if (depth >= kinds.length) {
                return false;
            }
            int base = depth * WIDTH;
            for (int k = base + FIRST_VALUE; k < base + WIDTH; k++) {
                words[k] = NIL;
            }
            words[base + FUNCTION] = function;
            words[base + REST] = rest;
            words[base + BINDINGS] = bindings;
            kinds[depth] = kind;
            valueCounts[depth] = 0;
            depth++;
            greatest = Math.max(greatest, depth);
            return true;
        }

        void pop() {
            if (depth > 0) {
                depth--;
            }
        }

        int kindOnTop() {
            return depth > 0 ? kinds[depth - 1] : CALL;
        }

        int valuesOnTop() {
            return depth > 0 ? valueCounts[depth - 1] : 0;
        }

        /** A part of the frame on top: FUNCTION, REST or BINDINGS. */
        long part(int which) {
            return depth > 0 ? words[(depth - 1) * WIDTH + which] : NIL;
        }

        void setRest(long rest) {
            if (depth > 0) {
                words[(depth - 1) * WIDTH + REST] = rest;
            }
        }

        void addValue(long value) {
            int values = valuesOnTop();
            if (depth > 0 && values < VALUE_LIMIT) {
                words[(depth - 1) * WIDTH + FIRST_VALUE + values] = value;
                valueCounts[depth - 1] = values + 1;
            }
        }

        void putValues(long[] from, int length) {
            for (int k = 0; k < length && k < VALUE_LIMIT; k++) {
                addValue(from[k]);
            }
        }

        /** Copies the values on top, and answers how many they are. */
        int takeValues(long[] to) {
            int values = valuesOnTop();
            if (depth > 0) {
                System.arraycopy(words, (depth - 1) * WIDTH + FIRST_VALUE, to, 0, values);
            }
            return values;
        }
    }

    /** Knows what is held, and makes the rest of the heap free. */
    private static final class Keeper {
        final Heap heap;
        final Names names;
        final Waiting waiting;
        final long[] others = new long[2];

        Keeper(Heap heap, Names names, Waiting waiting) {
            this.heap = heap;
            this.names = names;
            this.waiting = waiting;
        }

        int pairsOfGlobals() {
            heap.beginMarking();
            heap.mark(names.globals, names.total);
            return heap.markedCount;
        }

        /**
         * Whether the pairs wanted find room beside all that is held: what waits, and what is handed over here.
         * Free cells are never held, so that the heap needs no sweep while they are enough.
         */
        boolean hasRoom(int wanted, long[] values, int length, long function, long bindings) {
            if (heap.freeCount >= wanted) {
                return true;
            }
            others[0] = function;
            others[1] = bindings;
            heap.beginMarking();
            heap.mark(names.globals, names.total);
            heap.mark(waiting.words, waiting.depth * Waiting.WIDTH);
            heap.mark(values, length);
            heap.mark(others, 2);
            heap.sweep();
            return heap.freeCount >= wanted;
        }
    }

    /** Reads one expression: first its tokens, then, when all limits are kept, its pairs. */
    private static final class Reader {
        // What a list that is still open has: nothing yet, expressions, a dot behind them, all but its end.
        static final int EMPTY = 0;
        static final int BEGUN = 1;
        static final int DOTTED = 2;
        static final int ENDING = 3;

        final Text text;
        final Names names;
        final Heap heap;
        final Keeper keeper;
        final long[] tokens = new long[TEXT_LIMIT];
        final int[] states = new int[OPEN_LIMIT];
        final long[] firsts = new long[OPEN_LIMIT];
        final long[] lasts = new long[OPEN_LIMIT];
        final long[] noValues = new long[0];
        int tokenCount = 0;
        int depth = 0;
        int pairs = 0;
        int at = 0;
        long expression = NIL;

        Reader(Text text, Names names, Heap heap, Keeper keeper) {
            this.text = text;
            this.names = names;
            this.heap = heap;
            this.keeper = keeper;
        }

        /** Answers the fault, 0 for none. Only an expression that is whole leaves its names. */
        int read() {
            int known = names.total;
            names.crowded = false;
            if (!scan()) {
                names.total = known;
                text.faultPlace = at;
                text.position = text.length;
                return UNREADABLE;
            }
            text.position = at;
            if (names.crowded) {
                names.total = known;
                return NO_NAMES;
            }
            if (!keeper.hasRoom(pairs, noValues, 0, NIL, NIL)) {
                return NO_CELLS;
            }
            build();
            return 0;
        }

        /** Whether an expression stands at the text's position; if not, reading fails at the place where it is. */
        private boolean scan() {
            tokenCount = 0;
            depth = 0;
            pairs = 0;
            at = text.position;
            for (int round = 0; round < TEXT_LIMIT; round++) {
                at = text.behindBlanks(at);
                if (!takeToken(text.at(at))) {
                    return false;
                }
                if (depth == 0) {
                    return true;
                }
            }
            return false;
        }

        private boolean takeToken(int character) {
            if (character == ')') {
                return takeClose();
            }
            if (character == '.') {
                return takeDot();
            }
            if (state() == ENDING) {
                return false;
            }
            if (character == '(') {
                return takeOpen();
            }
            if (character == '-' || isDigit(character)) {
                return takeNumber(character == '-');
            }
            return Names.digitOf(character) > 0 && takeName();
        }

        private static boolean isDigit(int character) {
            return character >= '0' && character <= '9';
        }

        private int state() {
            return depth > 0 ? states[depth - 1] : EMPTY;
        }

        private boolean takeOpen() {
            if (depth >= OPEN_LIMIT) {
                return false;
            }
            states[depth] = EMPTY;
            depth++;
            at++;
            return keep(OPEN_SIGN);
        }

        private boolean takeClose() {
            if (depth == 0 || state() == DOTTED) {
                return false;
            }
            depth--;
            at++;
            noteExpression();
            return keep(CLOSE_SIGN);
        }

        private boolean takeDot() {
            if (depth == 0 || state() != BEGUN) {
                return false;
            }
            states[depth - 1] = DOTTED;
            at++;
            return keep(DOT_SIGN);
        }

        private boolean takeNumber(boolean negative) {
            if (negative) {
                at++;
            }
            int digits = 0;
            int number = 0;
            while (digits < DIGIT_LIMIT && isDigit(text.at(at))) {
                number = number * 10 + text.at(at) - '0';
                digits++;
                at++;
            }
            if (digits == 0 || isDigit(text.at(at))) {
                return false;
            }
            noteExpression();
            return keep(negative ? -number : number);
        }

        private boolean takeName() {
            int letters = 0;
            long spelling = 0;
            while (letters < LETTER_LIMIT && Names.digitOf(text.at(at)) > 0) {
                spelling = spelling * Names.BASE + Names.digitOf(text.at(at));
                letters++;
                at++;
            }
            if (Names.digitOf(text.at(at)) > 0) {
                return false;
            }
            noteExpression();
            return keep(names.wordOf(spelling));
        }

        /** An expression is whole: the list around it goes on with a pair for it, or ends with it. */
        private void noteExpression() {
            if (depth == 0) {
                return;
            }
            if (state() == DOTTED) {
                states[depth - 1] = ENDING;
            } else {
                states[depth - 1] = BEGUN;
                pairs++;
            }
        }

        private boolean keep(long token) {
            if (tokenCount >= TEXT_LIMIT) {
                return false;
            }
            tokens[tokenCount] = token;
            tokenCount++;
            return true;
        }

        private void build() {
            depth = 0;
            for (int k = 0; k < tokenCount; k++) {
                long token = tokens[k];
                if (token == OPEN_SIGN) {
                    openList();
                } else if (token == DOT_SIGN) {
                    markDot();
                } else if (token == CLOSE_SIGN) {
                    closeList();
                } else {
                    attach(token);
                }
            }
        }

        private void openList() {
            if (depth < OPEN_LIMIT) {
                firsts[depth] = NIL;
                lasts[depth] = NIL;
                states[depth] = EMPTY;
                depth++;
            }
        }

        private void markDot() {
            if (depth > 0) {
                states[depth - 1] = DOTTED;
            }
        }

        private void closeList() {
            if (depth > 0) {
                depth--;
                attach(firsts[depth]);
            }
        }

        private void attach(long word) {
            if (depth == 0) {
                expression = word;
                return;
            }
            int top = depth - 1;
            if (states[top] == DOTTED) {
                heap.setCdr(lasts[top], word);
                return;
            }
            long pair = heap.newPair(word, NIL);
            if (states[top] == EMPTY) {
                firsts[top] = pair;
                states[top] = BEGUN;
            } else {
                heap.setCdr(lasts[top], pair);
            }
            lasts[top] = pair;
        }
    }

    /** Evaluates and applies, one beginning or one value handed back at a time, without recursion. */
    private static final class Machine {
        static final int EVALUATE = 0;
        static final int CHOOSE = 1;
        static final int APPLY = 2;
        static final int HAND_BACK = 3;
        static final int DONE = 4;

        final Heap heap;
        final Names names;
        final Waiting waiting;
        final Keeper keeper;
        final int stepLimit;
        final long[] values = new long[VALUE_LIMIT];
        int valueCount = 0;
        int steps = 0;
        int mode = DONE;
        int failure = 0;
        long expression = NIL;
        long clauses = NIL;
        long function = NIL;
        long bindings = NIL;
        long result = NIL;

        Machine(Heap heap, Names names, Waiting waiting, Keeper keeper, int stepLimit) {
            this.heap = heap;
            this.names = names;
            this.waiting = waiting;
            this.keeper = keeper;
            this.stepLimit = stepLimit;
        }

        /** Answers the fault, 0 for none. Every value handed back is followed by a step or by the end. */
        int evaluate(long whole) {
            failure = 0;
            beginEvaluating(whole, NIL);
            int rounds = 2 * stepLimit + 4;
            for (int round = 0; round < rounds && mode != DONE && failure == 0; round++) {
                if (mode == HAND_BACK) {
                    handBack();
                } else if (steps >= stepLimit) {
                    failure = NO_STEPS;
                } else {
                    steps++;
                    if (mode == CHOOSE) {
                        choose();
                    } else if (mode == EVALUATE && Word.isPair(expression)) {
                        evaluatePair();
                    } else if (mode == EVALUATE) {
                        evaluateAtom();
                    } else if (Word.isPair(function)) {
                        applyPair();
                    } else {
                        applyAtom();
                    }
                }
            }
            return failure;
        }

        private void beginEvaluating(long what, long with) {
            expression = what;
            bindings = with;
            mode = EVALUATE;
        }

        private void beginApplying(long what) {
            function = what;
            mode = APPLY;
        }

        private void answer(long value) {
            result = value;
            mode = HAND_BACK;
        }

        private void answerTruth(boolean truth) {
            answer(truth ? T : NIL);
        }

        /** What a name is bound to, ABSENT if it is not. The heap has no circles, so its size bounds a list. */
        private long boundTo(long name) {
            long rest = bindings;
            for (int k = 0; k < heap.cars.length && Word.isPair(rest); k++) {
                long binding = heap.car(rest);
                if (heap.car(binding) == name) {
                    return heap.cdr(binding);
                }
                rest = heap.cdr(rest);
            }
            return names.globalOf(name);
        }

        private void evaluateAtom() {
            long value = Word.isFixed(expression) ? expression : boundTo(expression);
            if (value == ABSENT) {
                failure = UNBOUND;
            } else {
                answer(value);
            }
        }

        private void evaluatePair() {
            long head = heap.car(expression);
            if (head == QUOTE) {
                evaluateQuote();
            } else if (head == COND) {
                clauses = heap.cdr(expression);
                choose();
            } else if (head == DEFINE) {
                evaluateDefine();
            } else {
                evaluateCall(head, heap.cdr(expression));
            }
        }

        private void evaluateQuote() {
            if (heap.isListOf(expression, 2)) {
                answer(heap.car(heap.cdr(expression)));
            } else {
                failure = WRONG_FORM;
            }
        }

        private void evaluateDefine() {
            long name = heap.car(heap.cdr(expression));
            if (!heap.isListOf(expression, 3) || !Word.isName(name) || Word.isFixed(name)) {
                failure = WRONG_FORM;
                return;
            }
            names.makeGlobal(name, heap.car(heap.cdr(heap.cdr(expression))));
            answer(name);
        }

        /** Looks at the first clause alone: the others are looked at when a COND of them is evaluated. */
        private void choose() {
            long clause = heap.car(clauses);
            if (clauses == NIL) {
                failure = NO_CHOICE;
            } else if (!Word.isPair(clauses) || !heap.isListOf(clause, 2)) {
                failure = WRONG_FORM;
            } else if (!waiting.push(Waiting.CHOICE, NIL, clauses, bindings)) {
                failure = NO_TASKS;
            } else {
                beginEvaluating(heap.car(clause), bindings);
            }
        }

        private void evaluateCall(long head, long operands) {
            if (operands == NIL) {
                valueCount = 0;
                beginApplying(head);
            } else if (!Word.isPair(operands)) {
                failure = WRONG_FORM;
            } else if (!waiting.push(Waiting.CALL, head, heap.cdr(operands), bindings)) {
                failure = NO_TASKS;
            } else {
                beginEvaluating(heap.car(operands), bindings);
            }
        }

        private void handBack() {
            if (waiting.depth == 0) {
                mode = DONE;
                return;
            }
            bindings = waiting.part(Waiting.BINDINGS);
            switch (waiting.kindOnTop()) {
                case Waiting.CALL:
                    goOnWithCall();
                    break;
                case Waiting.CHOICE:
                    goOnWithChoice();
                    break;
                default:
                    valueCount = waiting.takeValues(values);
                    waiting.pop();
                    beginApplying(result);
                    break;
            }
        }

        private void goOnWithCall() {
            waiting.addValue(result);
            long rest = waiting.part(Waiting.REST);
            if (rest == NIL) {
                valueCount = waiting.takeValues(values);
                beginApplying(waiting.part(Waiting.FUNCTION));
                waiting.pop();
            } else if (!Word.isPair(rest) || waiting.valuesOnTop() >= VALUE_LIMIT) {
                failure = WRONG_FORM;
            } else {
                waiting.setRest(heap.cdr(rest));
                beginEvaluating(heap.car(rest), bindings);
            }
        }

        private void goOnWithChoice() {
            long from = waiting.part(Waiting.REST);
            waiting.pop();
            if (result == NIL) {
                clauses = heap.cdr(from);
                mode = CHOOSE;
            } else {
                beginEvaluating(heap.car(heap.cdr(heap.car(from))), bindings);
            }
        }

        private void applyPair() {
            long head = heap.car(function);
            if (head == LAMBDA) {
                applyLambda();
            } else if (head == LABEL) {
                applyLabel();
            } else if (!waiting.push(Waiting.APPLYING, NIL, NIL, bindings)) {
                failure = NO_TASKS;
            } else {
                waiting.putValues(values, valueCount);
                beginEvaluating(function, bindings);
            }
        }

        private void applyAtom() {
            if (Word.isFixed(function)) {
                failure = NO_FUNCTION;
                return;
            }
            long which = function - NAME_BASE;
            if (which >= CAR && which <= LESSP) {
                applyBuiltIn((int) which);
                return;
            }
            long value = boundTo(function);
            if (value == ABSENT) {
                failure = UNBOUND;
            } else {
                beginApplying(value);
            }
        }

        private void applyLambda() {
            long parameters = heap.car(heap.cdr(function));
            if (!heap.isListOf(function, 3) || !heap.isListOfNames(parameters, valueCount)) {
                failure = WRONG_FORM;
            } else if (!keeper.hasRoom(2 * valueCount, values, valueCount, function, bindings)) {
                failure = NO_CELLS;
            } else {
                long body = heap.car(heap.cdr(heap.cdr(function)));
                beginEvaluating(body, bindAll(parameters));
            }
        }

        /** The bindings with those of the parameters in front, the first one first. */
        private long bindAll(long parameters) {
            long whole = bindings;
            long last = NIL;
            long rest = parameters;
            for (int k = 0; k < valueCount; k++) {
                long link = heap.newPair(heap.newPair(heap.car(rest), values[k]), bindings);
                if (k == 0) {
                    whole = link;
                } else {
                    heap.setCdr(last, link);
                }
                last = link;
                rest = heap.cdr(rest);
            }
            return whole;
        }

        private void applyLabel() {
            long name = heap.car(heap.cdr(function));
            if (!heap.isListOf(function, 3) || !Word.isName(name)) {
                failure = WRONG_FORM;
            } else if (!keeper.hasRoom(2, values, valueCount, function, bindings)) {
                failure = NO_CELLS;
            } else {
                long labelled = heap.car(heap.cdr(heap.cdr(function)));
                bindings = heap.newPair(heap.newPair(name, labelled), bindings);
                beginApplying(labelled);
            }
        }

        private static int valuesOf(int which) {
            switch (which) {
                case CAR:
                case CDR:
                case ATOM:
                case NULL:
                case NUMBERP:
                    return 1;
                default:
                    return 2;
            }
        }

        private void applyBuiltIn(int which) {
            if (valueCount != valuesOf(which)) {
                failure = WRONG_FORM;
                return;
            }
            switch (which) {
                case CAR:
                case CDR:
                    takePart(which, values[0]);
                    break;
                case CONS:
                    makePair();
                    break;
                case ATOM:
                    answerTruth(!Word.isPair(values[0]));
                    break;
                case EQ:
                    compareAtoms(values[0], values[1]);
                    break;
                case NULL:
                    answerTruth(values[0] == NIL);
                    break;
                case NUMBERP:
                    answerTruth(Word.isNumber(values[0]));
                    break;
                default:
                    reckon(which, values[0], values[1]);
                    break;
            }
        }

        private void takePart(int which, long pair) {
            if (Word.isPair(pair)) {
                answer(which == CAR ? heap.car(pair) : heap.cdr(pair));
            } else {
                failure = WRONG_KIND;
            }
        }

        /** The bindings are not held any more here: what still needs them waits with them. */
        private void makePair() {
            if (keeper.hasRoom(1, values, 2, NIL, NIL)) {
                answer(heap.newPair(values[0], values[1]));
            } else {
                failure = NO_CELLS;
            }
        }

        private void compareAtoms(long one, long other) {
            if (Word.isPair(one) || Word.isPair(other)) {
                failure = WRONG_KIND;
            } else {
                answerTruth(one == other);
            }
        }

        private void reckon(int which, long one, long other) {
            if (!Word.isNumber(one) || !Word.isNumber(other)) {
                failure = WRONG_KIND;
                return;
            }
            int x = (int) one;
            int y = (int) other;
            switch (which) {
                case PLUS:
                    answer(x + y);
                    break;
                case DIFFERENCE:
                    answer(x - y);
                    break;
                case TIMES:
                    answer(x * y);
                    break;
                default:
                    answerTruth(x < y);
                    break;
            }
        }
    }

    /** Prints a value; what is beyond the limit is cut. */
    private static final class Printer {
        final Heap heap;
        final Names names;
        final char[] printed = new char[PRINT_LIMIT];
        // Every list that is open has printed its parenthesis, so there are no more of them than characters.
        final long[] rests = new long[PRINT_LIMIT];
        // An int has eleven characters at most, a name twelve.
        final char[] backwards = new char[LETTER_LIMIT];
        int depth = 0;
        int length = 0;

        Printer(Heap heap, Names names) {
            this.heap = heap;
            this.names = names;
        }

        /** Each round prints something, so that the limit of characters bounds the rounds. */
        void print(long value) {
            length = 0;
            depth = 0;
            printBeginning(value);
            for (int round = 0; round < PRINT_LIMIT && depth > 0 && length < PRINT_LIMIT; round++) {
                long rest = rests[depth - 1];
                if (Word.isPair(rest)) {
                    rests[depth - 1] = heap.cdr(rest);
                    if (length > 0 && printed[length - 1] != '(') {
                        put(' ');
                    }
                    printBeginning(heap.car(rest));
                } else {
                    depth--;
                    printEnd(rest);
                }
            }
        }

        /** An atom whole; of a list its parenthesis, with all that is in it still to come. */
        private void printBeginning(long value) {
            if (!Word.isPair(value)) {
                printAtom(value);
            } else if (depth < PRINT_LIMIT) {
                put('(');
                rests[depth] = value;
                depth++;
            }
        }

        private void printEnd(long last) {
            if (last != NIL) {
                put(' ');
                put('.');
                put(' ');
                printAtom(last);
            }
            put(')');
        }

        private void printAtom(long atom) {
            if (Word.isNumber(atom)) {
                printNumber(atom);
            } else {
                printName(names.spellingOf(atom));
            }
        }

        private void printNumber(long number) {
            if (number < 0) {
                put('-');
            }
            long left = Math.abs(number);
            int digits = 0;
            do {
                backwards[digits] = (char) ('0' + left % 10);
                digits++;
                left /= 10;
            } while (left > 0 && digits < LETTER_LIMIT);
            putBackwards(digits);
        }

        private void printName(long spelling) {
            long left = spelling;
            int letters = 0;
            while (left > 0 && letters < LETTER_LIMIT) {
                backwards[letters] = Names.characterOf((int) (left % Names.BASE));
                letters++;
                left /= Names.BASE;
            }
            putBackwards(letters);
        }

        private void putBackwards(int from) {
            for (int k = from - 1; k >= 0; k--) {
                put(backwards[k]);
            }
        }

        private void put(char character) {
            if (length < PRINT_LIMIT) {
                printed[length] = character;
                length++;
            }
        }
    }
}
