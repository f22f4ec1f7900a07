import java.util.Arrays;
import java.util.Random;

/** Runs of calls made by chance from fixed seeds: ConsHouse answers what the plain model answers. */
public final class ModelTest {
    private static final int RUNS = 12000;
    // What the document promises is about so many calls of one object; comparing has these of them.
    private static final int CALLS = 512;
    private static final int COMPARED = 18;
    private static final String[] LIBRARY = {
        "(DEFINE APP (LAMBDA (X Y) (COND ((NULL X) Y) (T (CONS (CAR X) (APP (CDR X) Y))))))",
        "(DEFINE REV (LAMBDA (X Y) (COND ((NULL X) Y) (T (REV (CDR X) (CONS (CAR X) Y))))))",
        "(DEFINE LEN (LAMBDA (X) (COND ((ATOM X) 0) (T (PLUS 1 (LEN (CDR X)))))))",
        "(DEFINE MAP (LAMBDA (F X) (COND ((NULL X) NIL) (T (CONS (F (CAR X)) (MAP F (CDR X)))))))",
        "(DEFINE UPTO (LAMBDA (X) (COND ((LESSP X 1) NIL) (T (CONS X (UPTO (DIFFERENCE X 1)))))))",
        "(DEFINE TWO (LAMBDA (X) (CONS X X)))",
        "(DEFINE LOOP (LAMBDA () (COND ((CONS 1 (QUOTE (2))) (LOOP)))))",
        "(DEFINE KEEP (LAMBDA (X) (KEEP (CONS X X))))",
        "(DEFINE F TWO)", "(DEFINE A (1 2 3))", "(DEFINE B ((A . 1) (B . 2)))", "(DEFINE X 5)", "(DEFINE A NIL)"};
    private static final String[] NAMES = {"A", "B", "X", "Y", "F", "NIL", "T", "LEN", "TWO", "UPTO", "APP", "REV",
        "MAP", "CAR", "CDR", "CONS", "LAMBDA", "QUOTE", "COND", "DEFINE", "LABEL", "Z1", "LOOP", "KEEP"};
    private static final String[] ONE = {"CAR", "CDR", "ATOM", "NULL", "NUMBERP", "LEN", "TWO", "UPTO", "F"};
    private static final String[] BOTH = {"CONS", "EQ", "PLUS", "DIFFERENCE", "TIMES", "LESSP", "APP", "REV", "MAP",
        "CONS", "CONS"};
    private static final String[] BLANKS = {" ", " ", " ", " ", "\n", "  "};
    private static final String NOISE = "()().. -1A9Zz~\n";

    private final Random chance;

    private ModelTest(long seed) {
        chance = new Random(seed);
    }

    private String one(String[] of) {
        return of[chance.nextInt(of.length)];
    }

    private String data(int depth) {
        int kind = chance.nextInt(depth > 0 ? 10 : 5);
        if (kind < 3) {
            return "" + (chance.nextInt(40) - 10);
        }
        if (kind < 5) {
            return chance.nextInt(6) == 0 ? "N" + chance.nextInt(200) : one(NAMES);
        }
        StringBuilder list = new StringBuilder("(");
        int length = chance.nextInt(6);
        for (int k = 0; k < length; k++) {
            list.append(data(depth - 1)).append(one(BLANKS));
        }
        if (length > 0 && chance.nextInt(4) == 0) {
            list.append(".").append(data(depth - 1));
        }
        return list.append(")").toString();
    }

    private String expression(int depth) {
        if (depth == 0) {
            return chance.nextInt(3) == 0 ? one(NAMES) : "" + (chance.nextInt(30) - 5);
        }
        switch (chance.nextInt(14)) {
            case 0:
                return one(NAMES);
            case 1:
            case 2:
                return "(QUOTE " + data(3) + ")";
            case 3:
            case 4:
                return "(" + one(ONE) + " " + expression(depth - 1) + ")";
            case 5:
            case 6:
            case 7:
                return "(" + one(BOTH) + " " + expression(depth - 1) + one(BLANKS) + expression(depth - 1) + ")";
            case 8:
                return choice(depth);
            case 9:
                return "((LAMBDA (" + one(NAMES) + ") " + expression(depth - 1) + ")" + expression(depth - 1) + ")";
            case 10:
                return "((LAMBDA (X Y) " + expression(depth - 1) + ") " + expression(depth - 1) + " "
                    + expression(depth - 1) + ")";
            case 11:
                return "((LABEL F (LAMBDA (X) (COND ((ATOM X) " + expression(depth - 1)
                    + ") (T (CONS (F (CAR X)) (F (CDR X))))))) " + expression(depth - 1) + ")";
            case 12:
                return "((" + one(new String[] {"QUOTE", "CAR", "CDR"}) + " " + expression(depth - 1) + ") "
                    + expression(depth - 1) + ")";
            default:
                return odd(depth);
        }
    }

    private String choice(int depth) {
        StringBuilder text = new StringBuilder("(COND");
        int length = chance.nextInt(4);
        for (int k = 0; k < length; k++) {
            text.append(" (").append(k + 1 == length && chance.nextBoolean() ? "T" : expression(depth - 1));
            text.append(" ").append(expression(depth - 1)).append(")");
        }
        return text.append(")").toString();
    }

    private String odd(int depth) {
        switch (chance.nextInt(4)) {
            case 0:
                return "(DEFINE " + one(NAMES) + " " + data(3) + ")";
            case 1:
                return data(depth);
            case 2:
                return "(" + one(NAMES) + " 1 2 3 4 5 6 7 8" + one(new String[] {")", " 9)", " . 9)"});
            default:
                return "(LOOP)";
        }
    }

    /** Now and then a text loses a character, or gets another one. */
    private String spoiled(String text) {
        if (text.isEmpty() || chance.nextInt(8) != 0) {
            return text;
        }
        int at = chance.nextInt(text.length());
        String noise = "" + NOISE.charAt(chance.nextInt(NOISE.length()));
        return text.substring(0, at) + (chance.nextBoolean() ? noise : "") + text.substring(at + chance.nextInt(2));
    }

    private String manyNames() {
        StringBuilder text = new StringBuilder("(QUOTE (");
        int from = chance.nextInt(200);
        int length = chance.nextInt(90);
        for (int k = from; k < from + length; k++) {
            text.append("N").append(k).append(one(BLANKS));
        }
        return text.append("))").toString();
    }

    private String someText(int turn) {
        int kind = chance.nextInt(turn < 6 ? 5 : 20);
        if (kind == 19) {
            return spoiled(manyNames());
        }
        if (kind < 3) {
            return spoiled(one(LIBRARY));
        }
        if (kind < 4) {
            return spoiled("(LEN (MAP (QUOTE TWO) (APP (UPTO " + chance.nextInt(20) + ") (QUOTE " + data(2) + "))))");
        }
        return spoiled(expression(1 + chance.nextInt(4)) + one(BLANKS));
    }

    /** Calls that make many pairs, and the functions that they need: what is held is near the limit then. */
    private String[] crowding() {
        String numbers = "(UPTO " + chance.nextInt(15) + ")";
        String list = chance.nextInt(3) == 0 ? "(QUOTE " + data(3) + ")" : numbers;
        String map = "(MAP (QUOTE " + one(new String[] {"TWO", "ATOM", "(LAMBDA (Z) (CONS Z (QUOTE (1))))"}) + ") ";
        String copy = "((LABEL G (LAMBDA (X) (COND ((ATOM X) X) (T (CONS (G (CAR X)) (G (CDR X))))))) ";
        String reversed = "(REV " + list + " NIL)";
        String[] calls = {"(APP " + list + " " + numbers + ")", reversed, "(KEEP 1)", "(LEN " + list + ")",
            map + list + ")", copy + list + ")", "((LAMBDA (X Y) (CONS (APP X Y) X)) " + list + " " + reversed + ")",
            "(CONS (DEFINE A " + data(2) + ") " + list + ")", "(LOOP)", "(TWO (TWO " + list + "))"};
        String[] texts = new String[25];
        for (int k = 0; k < texts.length; k++) {
            String function = LIBRARY[(k + chance.nextInt(2)) % 8];
            texts[k] = k < 5 ? function : chance.nextInt(8) == 0 ? expression(3) : one(calls);
        }
        return texts;
    }

    private String[] mixture() {
        String[] texts = new String[25];
        for (int turn = 0; turn < texts.length; turn++) {
            texts[turn] = someText(turn);
        }
        return texts;
    }

    private String[] naming() {
        String[] texts = new String[12];
        for (int turn = 0; turn < texts.length; turn++) {
            texts[turn] = chance.nextInt(3) > 0 ? spoiled(manyNames()) : someText(turn);
        }
        return texts;
    }

    private static int nextOf(ConsHouse house) {
        try {
            return house.next();
        } catch (IllegalArgumentException e) {
            return -1;
        } catch (IllegalStateException e) {
            return -2;
        }
    }

    /** Eight characters of what is printed are compared, and those ahead of it and behind it. */
    private void compare(String where, PlainHouse plain, ConsHouse house) {
        Probe.due("fault, " + where, plain.fault(), house.fault());
        Probe.due("place, " + where, plain.place(), house.place());
        Probe.due("size, " + where, plain.size(), house.size());
        int from = chance.nextInt(4) == 0 ? Math.max(0, plain.size() - 8) : chance.nextInt(plain.size() + 1);
        for (int k = from; k < from + 8; k++) {
            Probe.due("out " + k + ", " + where, plain.out(k), house.out(k));
        }
        Probe.due("out -1, " + where, plain.out(-1), house.out(-1));
        for (int what = -1; what <= 4; what++) {
            Probe.due("count " + what + ", " + where, plain.count(what), house.count(what));
        }
    }

    private void run(long seed, int[] seen) {
        int kind = chance.nextInt(8);
        int cells = kind > 2 ? 100 + chance.nextInt(100) : 14 + chance.nextInt(300);
        int tasks = chance.nextInt(3) == 0 ? 3 + chance.nextInt(12) : 100;
        int steps = chance.nextInt(3) == 0 ? 9 + chance.nextInt(200) : 2000;
        ConsHouse house = new ConsHouse(cells, tasks, steps);
        PlainHouse plain = new PlainHouse(cells, tasks, steps);
        int calls = 0;
        for (String text : kind > 2 ? crowding() : kind > 0 ? mixture() : naming()) {
            calls += Probe.packed(text).length + 1 + COMPARED;
            if (calls + 1 + COMPARED > CALLS) {
                return;
            }
            for (long word : Probe.packed(text)) {
                Probe.due("write, seed " + seed, plain.write(word), house.write(word));
            }
            int due = plain.next();
            seen[plain.fault()]++;
            if (plain.fault() == 6 && plain.count(0) > 0) {
                seen[11]++;
            }
            String where = "seed " + seed + " limits " + cells + " " + tasks + " " + steps + " text " + text;
            Probe.due("next, " + where, due, nextOf(house));
            compare(where, plain, house);
            if (chance.nextInt(8) == 0) {
                plain.clear();
                house.clear();
                calls += 1 + COMPARED;
                compare("clear behind " + where, plain, house);
            }
        }
    }

    public static void main(String[] args) {
        // The last one counts those faults 6 that evaluating has.
        int[] seen = new int[12];
        for (long seed = 1; seed <= RUNS; seed++) {
            new ModelTest(seed).run(seed, seen);
        }
        for (int fault = 0; fault < seen.length; fault++) {
            Probe.due("fault " + fault + " was met often", true, seen[fault] > 100);
        }
        System.out.println("faults met, 0 to 10, and 6 in evaluating: " + Arrays.toString(seen));
        Probe.end();
    }
}
