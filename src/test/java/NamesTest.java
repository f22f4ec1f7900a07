/** Promises 4 and 9 with NAMES: how many there are, which of them stay, and fault 9 exactly when it is due. */
public final class NamesTest {
    /** The names X and a number, from one to just ahead of another. */
    private static String distinct(int from, int to) {
        StringBuilder text = new StringBuilder();
        for (int k = from; k < to; k++) {
            text.append(" X").append(k);
        }
        return text.toString();
    }

    /** A house in which so many names are, by an expression with fault 3 that is made of nothing else. */
    private static Probe having(int names) {
        Probe probe = new Probe(1000, 4, 100);
        return probe.gives("(QUOTE" + distinct(18, names) + ")", "fault 3").counts(2, names);
    }

    private static void first() {
        Probe.sentence("with those above (NIL, T, QUOTE, COND, DEFINE, LAMBDA, LABEL and the eleven functions)");
        Probe probe = Probe.wide();
        probe.counts(2, 18);
        probe.gives("(QUOTE (NIL T QUOTE COND DEFINE LAMBDA LABEL CAR CDR CONS ATOM EQ NULL NUMBERP PLUS DIFFERENCE"
            + " TIMES LESSP))", "(NIL T QUOTE COND DEFINE LAMBDA LABEL CAR CDR CONS ATOM EQ NULL NUMBERP PLUS"
            + " DIFFERENCE TIMES LESSP)").counts(2, 18);
        probe.gives("() (QUOTE (CARS CA LESSP1 T0 NI))", "NIL", "(CARS CA LESSP1 T0 NI)").counts(2, 23);
    }

    private static void limit() {
        Probe.sentence("NAMES are at most 150 in all; fault 9 when there would be more by an expression");
        having(148).gives("(QUOTE Y)", "Y").counts(2, 149);
        having(149).gives("(QUOTE Y)", "Y").counts(2, 150);
        having(150).gives("(QUOTE Y)", "fault 9").counts(2, 150).counts(0, 0).counts(3, 0);
        having(150).gives("Y", "fault 9").counts(2, 150);
        having(149).gives("(QUOTE (Y Z))", "fault 9").counts(2, 149);
        having(148).gives("(QUOTE (Y Z))", "(Y Z)").counts(2, 150);
        // By one expression alone.
        new Probe(1000, 4, 100).gives("(QUOTE" + distinct(0, 131) + ")", "fault 3").counts(2, 149);
        new Probe(1000, 4, 100).gives("(QUOTE" + distinct(0, 132) + ")", "fault 3").counts(2, 150);
        new Probe(1000, 4, 100).gives("(QUOTE" + distinct(0, 133) + ")", "fault 9").counts(2, 18);
        new Probe(1000, 4, 100).gives("(QUOTE" + distinct(0, 300) + ")", "fault 9").counts(2, 18);
        // What is there already, or stands twice in it, is no more.
        having(149).gives("(QUOTE (Y X148 Y X18 LESSP NIL))", "(Y X148 Y X18 LESSP NIL)").counts(2, 150);
        having(150).gives("(QUOTE (X149 X18 LESSP 5))", "(X149 X18 LESSP 5)").counts(2, 150);
        having(150).gives("(DEFINE X149 7) X149 (ATOM X18)", "X149", "7", "fault 1").counts(2, 150);
        // Reading stands behind it, and goes on there.
        having(150).gives(" (QUOTE (Z)) 5 Y T", "fault 9", "5", "fault 9", "T");
        Probe probe = having(150);
        int before = probe.place();
        probe.gives(" Y (Z) ", "fault 9").stands(before + 2).tells(9).prints("");
        Probe.due("next", "fault 9", probe.next());
        probe.stands(before + 6);
    }

    private static void ahead() {
        Probe.sentence("ahead of fault 6");
        new Probe(16, 4, 100).gives("(QUOTE" + distinct(0, 132) + ")", "fault 6").counts(2, 150);
        new Probe(16, 4, 100).gives("(QUOTE" + distinct(0, 133) + ")", "fault 9").counts(2, 18);
        Probe.sentence("A FAULT of reading (an expression that is none has no fault 9)");
        having(150).gives("(Z", "place " + (7 + distinct(18, 150).length() + 2));
        Probe probe = new Probe(1000, 4, 100);
        String many = distinct(0, 300);
        probe.gives("(" + many + " ?", "place " + (many.length() + 2)).counts(2, 18).tells(10);
    }

    private static void stay() {
        Probe.sentence("They stay, with those of an expression that was read whole (also of one with fault 6)");
        Probe probe = new Probe(16, 4, 20);
        probe.gives("A1", "fault 1").counts(2, 19);
        probe.gives("(CAR (QUOTE A2))", "fault 2").counts(2, 20);
        probe.gives("(QUOTE A3 A4)", "fault 3").counts(2, 22);
        probe.gives("(5 (QUOTE A5))", "fault 4").counts(2, 23);
        probe.gives("(COND (NIL A6))", "fault 5").counts(2, 24);
        probe.gives("(A1 A7 A7 A7 A7 A7 A7 A7 A7 A7 A7 A7 A7 A7 A7 A7 A7)", "fault 6").counts(2, 25);
        probe.gives(Texts.atoms(5, "A8"), "fault 7").counts(2, 26);
        probe.gives("((LABEL A9 (LAMBDA () (A9))))", "fault 8").counts(2, 27);
        probe.gives("(QUOTE B1)", "B1").counts(2, 28);
        probe.gives("(QUOTE (A1 A2 A3 A4 A5 A6 A7 A8 A9 B1))", "(A1 A2 A3 A4 A5 A6 A7 A8 A9 B1)").counts(2, 28);
        probe.clear();
        probe.counts(2, 28);
        // Those of one that was not read whole do not; a name that comes into their place is another one.
        probe.gives("(C1 C2", "place 6").counts(2, 28);
        probe.clear();
        probe.gives("(C1 A1 . )", "place 9").counts(2, 28);
        probe.clear();
        probe.gives("(DEFINE D1 5)", "D1").counts(2, 29);
        probe.gives("C1 D1", "fault 1", "5").counts(2, 30);
    }

    /** With 150 names in all every one of them is still told from the others. */
    private static void apart() {
        Probe.sentence("NAMES (each is itself)");
        Probe probe = having(150);
        probe.gives("(DEFINE X18 1) (DEFINE X149 2) (DEFINE X84 3)", "X18", "X149", "X84");
        probe.gives("(QUOTE (X149 X18 X84 X148 X19)) X18 X149 X84 X19", "(X149 X18 X84 X148 X19)", "1", "2", "3",
            "fault 1");
        // The pairs of the last one's GLOBAL are held, and counted.
        Probe small = new Probe(16, 4, 100);
        small.gives("(QUOTE" + distinct(18, 150) + ")", "fault 6").counts(2, 150);
        small.gives("(DEFINE X149 (1 2 3))", "X149").counts(1, 3);
        small.gives("(QUOTE (1 2 3 4 5 6 7 8 9 10 11))", "(1 2 3 4 5 6 7 8 9 10 11)");
        small.gives("(QUOTE (1 2 3 4 5 6 7 8 9 10 11 12))", "fault 6").gives("X149", "(1 2 3)");
    }

    public static void main(String[] args) {
        first();
        limit();
        ahead();
        stay();
        apart();
        Probe.end();
    }
}
