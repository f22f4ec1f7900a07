/** Promise 9: what is counted. */
public final class CountTest {
    private static void others() {
        Probe.sentence("NONE for another what");
        for (int what : new int[] {-1, 4, 5, -2, 100, Integer.MIN_VALUE, Integer.MAX_VALUE}) {
            Probe probe = Probe.wide();
            probe.counts(what, -1);
            probe.gives("(CONS 1 2)", "(1 . 2)").counts(what, -1);
        }
        Probe.due("NONE", -1, ConsHouse.NONE);
    }

    private static void all(Probe probe, int steps, int globals, int names, int waited) {
        probe.counts(0, steps).counts(1, globals).counts(2, names).counts(3, waited);
    }

    private static void latest() {
        Probe.sentence("How many steps the latest next() took; the greatest number that waited in the latest next()");
        Probe probe = new Probe(16, 8, 30);
        all(probe, 0, 0, 18, 0);
        all(probe.gives("(CONS 1 (CONS 2 3))", "(1 2 . 3)"), 7, 0, 18, 2);
        all(probe.gives(" 5", "5"), 1, 0, 18, 0);
        all(probe.gives(" (ATOM 1)", "T"), 3, 0, 18, 1);
        all(probe.gives(" ", "none"), 0, 0, 18, 0);
        all(probe.gives(" (ATOM 1)", "T"), 3, 0, 18, 1);
        all(probe.gives("(" + "1 ".repeat(17) + ")", "fault 6"), 0, 0, 18, 0);
        all(probe.gives(" (ATOM 1)", "T"), 3, 0, 18, 1);
        all(probe.gives("(CONS 1 (CONS 1 X))", "fault 1"), 5, 0, 19, 2);
        probe.clear();
        all(probe, 5, 0, 19, 2);
        all(probe.gives(")", "place 0"), 0, 0, 19, 0);
        probe.clear();
        all(probe.gives("((LABEL F (LAMBDA () (F))))", "fault 8"), 30, 0, 20, 0);
        all(probe.gives(" (ATOM (ATOM X))", "fault 1"), 3, 0, 20, 2);
        // The greatest number, not the last.
        all(probe.gives(" (CONS (ATOM (ATOM (ATOM 1))) 2)", "(T . 2)"), 10, 0, 20, 4);
        // Asking changes nothing.
        all(probe, 10, 0, 20, 4);
    }

    private static void globals() {
        Probe.sentence("how many pairs can be come to from the GLOBALS now");
        Probe probe = Probe.wide();
        probe.counts(1, 0).gives("(DEFINE X 1)", "X").counts(1, 0);
        probe.gives("(DEFINE X (1))", "X").counts(1, 1);
        probe.gives("(DEFINE X (1 . 2))", "X").counts(1, 1);
        probe.gives("(DEFINE X (1 (2 3) . 4))", "X").counts(1, 4);
        probe.gives("(DEFINE Y ((1) (2)))", "Y").counts(1, 8);
        probe.gives("(DEFINE X NIL)", "X").counts(1, 4);
        // Values, bindings and what is at fault are none of them.
        probe.gives("(CONS 1 (CONS 2 3))", "(1 2 . 3)").counts(1, 4);
        probe.gives("((LAMBDA (X) (CAR X)) 1)", "fault 2").counts(1, 4);
        probe.gives("(QUOTE (1 2 3))", "(1 2 3)").counts(1, 4);
        probe.gives("(CONS (QUOTE (1 2 3)) (CAR 1))", "fault 2").counts(1, 4);
        // A DEFINE ahead of a fault stays.
        probe.gives("(CAR (DEFINE X (1 2 3)))", "fault 2").counts(1, 7);
        probe.clear();
        probe.counts(1, 7).gives("(DEFINE X 1) (DEFINE Y 1)", "X", "Y").counts(1, 0);
    }

    private static void sharedGlobals() {
        Probe.sentence("how many pairs can be come to from the GLOBALS now (each once)");
        Probe probe = Probe.wide();
        probe.gives("(DEFINE F (LAMBDA () (DEFINE G (1 2 3))))", "F").counts(1, 9);
        probe.gives("(F)", "G").counts(1, 9);
        probe.gives("(DEFINE F 1)", "F").counts(1, 3);
        probe.gives("(DEFINE G 1)", "G").counts(1, 0);
        // As many as a house can have: all but the three of a DEFINE around it.
        Probe most = new Probe(1000, 4, 100);
        most.write("(DEFINE X (" + "1A ".repeat(498) + "1))");
        Probe.due("DEFINE", "1", most.nextKind());
        most.counts(1, 997);
    }

    public static void main(String[] args) {
        others();
        latest();
        globals();
        sharedGlobals();
        Probe.end();
    }
}
