/** Texts that several tests use. */
final class Texts {
    private Texts() {
    }

    /** A quoted list; the expression is made of so many pairs, and has a little more than one character for each. */
    static String ofPairs(int pairs) {
        StringBuilder text = new StringBuilder("(QUOTE(");
        for (int k = 2; k < pairs; k++) {
            text.append(k % 2 == 0 ? "1" : "A ");
        }
        return text.append("))").toString();
    }

    /** (ATOM (ATOM .. inner)), so many deep: as many wait as it is deep. */
    static String atoms(int depth, String inner) {
        return "(ATOM ".repeat(depth) + inner + ")".repeat(depth);
    }

    /** Defines MK: (MK) makes a list of so many pairs, with 3 made + 4 steps, the last of which makes the last pair. */
    static String maker(int made) {
        return "(DEFINE MK (LAMBDA () " + "(CONS 1 ".repeat(made) + "1" + ")".repeat(made) + "))";
    }

    static int pairsOfMaker(int made) {
        return 3 + 3 * made;
    }

    static int stepsOfMaker(int made) {
        return 3 * made + 4;
    }

    private static final int DOUBLINGS = 12;

    /** The functions that taking(n) needs, each with its own DEFINE of one step. */
    static String stepFunctions() {
        StringBuilder text = new StringBuilder("(DEFINE D0(LAMBDA()1))");
        for (int k = 1; k < DOUBLINGS; k++) {
            text.append("(DEFINE D").append(k).append("(LAMBDA()(EQ(D").append(k - 1).append(")(D").append(k - 1)
                .append("))))");
        }
        return text.toString();
    }

    /** An expression that takes so many steps, ten at least, and is 1. */
    static String taking(int steps) {
        StringBuilder text = new StringBuilder();
        int left = steps - 1;
        int clauses = 0;
        for (int k = DOUBLINGS - 1; k >= 0; k--) {
            // (D0) takes 4, (Dk) 5 and twice the one before; the COND around it one more.
            int taken = 9 * (1 << k) - 4;
            while (left >= taken && (left - taken) % 2 == 0 || left >= taken + 5) {
                text.append("(COND((D").append(k).append(")");
                left -= taken;
                clauses++;
            }
        }
        for (; left > 1; left -= 2) {
            text.append("(COND(1 ");
            clauses++;
        }
        return text.append("1").append("))".repeat(clauses)).toString();
    }
}
