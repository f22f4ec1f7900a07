/** Promises 4 and 9 with STEP: what is a step, and fault 8 exactly when it is due. */
public final class StepsTest {
    /** Ten steps, so that what is done behind them can meet the least limit of steps. */
    private static final String TEN = "(DEFINE TEN (LAMBDA () (ATOM (ATOM (ATOM 1)))))";

    /** An expression takes so many steps; it is whole with a limit of just these, and has fault 8 with one less. */
    private static void takes(String text, int steps, String answer, String... before) {
        String padded = "(COND ((TEN) " + text + "))";
        for (int limit = steps + 10; limit <= steps + 12; limit++) {
            Probe probe = new Probe(300, 50, limit);
            probe.gives(TEN, "TEN");
            for (String definition : before) {
                probe.write(definition);
                Probe.due(definition, "1", probe.nextKind());
            }
            boolean enough = limit >= steps + 11;
            probe.gives(padded, enough ? answer : "fault 8").counts(0, enough ? steps + 11 : limit);
        }
    }

    private static void evaluating() {
        Probe.sentence("A STEP is each beginning of evaluating ..");
        takes("5", 1, "5");
        takes("NIL", 1, "NIL");
        takes("X", 1, "fault 1");
        takes("X", 1, "7", "(DEFINE X 7)");
        takes("(QUOTE (A B))", 1, "(A B)");
        takes("(QUOTE)", 1, "fault 3");
        takes("(DEFINE X 1)", 1, "X");
        takes("(DEFINE 1 1)", 1, "fault 3");
        takes("(F . 1)", 1, "fault 3");
        takes("(F 1 . 1)", 2, "fault 3");
        takes("(F 1 2 3 4 5 6 7 8)", 10, "fault 1");
        takes("(F 1 2 3 4 5 6 7 8 9)", 9, "fault 3");
    }

    private static void applying() {
        Probe.sentence("A STEP is each beginning of .. applying something");
        takes("(F)", 2, "fault 1");
        takes("(5)", 2, "fault 4");
        takes("(CAR)", 2, "fault 3");
        takes("(CAR 1)", 3, "fault 2");
        takes("(CONS 1 2)", 4, "(1 . 2)");
        takes("((LAMBDA () 1))", 3, "1");
        takes("((LAMBDA (X) X) 1)", 4, "1");
        takes("((LAMBDA () 1) 2)", 3, "fault 3");
    }

    private static void inPlace() {
        Probe.sentence("(also of what takes the place of something)");
        takes("(COND (T 2))", 3, "2");
        takes("(COND (NIL 1) (T 2))", 5, "2");
        takes("(COND (NIL 1) (NIL 1) (T 2))", 7, "2");
        takes("(COND)", 1, "fault 5");
        takes("(COND 5)", 1, "fault 3");
        takes("(COND (NIL 1))", 3, "fault 5");
        takes("(COND (NIL 1) 5)", 3, "fault 3");
        takes("(F)", 4, "1", "(DEFINE F (LAMBDA () 1))");
        takes("(F)", 5, "1", "(DEFINE F G)", "(DEFINE G (LAMBDA () 1))");
        takes("(F 1)", 4, "T", "(DEFINE F ATOM)");
        takes("((LABEL F ATOM) 1)", 4, "T");
        takes("((LABEL F (LAMBDA () 1)))", 4, "1");
        takes("((LABEL F (LABEL G (LAMBDA () 1))))", 5, "1");
        takes("((LABEL 1 ATOM) 1)", 3, "fault 3");
        takes("((QUOTE CAR) (QUOTE (1)))", 5, "1");
        takes("((CAR (QUOTE (ATOM))) 1)", 7, "T");
        takes("((QUOTE (QUOTE ATOM)) 1)", 7, "T");
    }

    /** The loop of the document's tests takes three steps a turn, and ends just with the limit. */
    private static void limit() {
        Probe.sentence("8, when there were as many steps as STEPS and one more would be");
        for (int steps = 10; steps < 20; steps++) {
            new Probe(100, 4, steps).gives("((LABEL F (LAMBDA () (F))))", "fault 8").counts(0, steps).counts(3, 0);
        }
        String eleven = "(CONS (ATOM 1) (CONS 1 (ATOM 1)))";
        new Probe(100, 5, 12).gives(eleven, "(T 1 . T)").counts(0, 11);
        new Probe(100, 5, 11).gives(eleven, "(T 1 . T)").counts(0, 11);
        new Probe(100, 5, 10).gives(eleven, "fault 8").counts(0, 10);
        // Steps are those of each next() alone.
        Probe twice = new Probe(100, 5, 11);
        twice.gives(eleven + eleven, "(T 1 . T)", "(T 1 . T)").counts(0, 11);
        twice.gives("((LABEL F (LAMBDA () (F))))", "fault 8").gives(eleven, "(T 1 . T)");
        // What is at fault without a further step is told as it is, though the steps are exhausted.
        new Probe(100, 5, 11).gives("(F 1 2 3 4 5 6 7 (ATOM 1) 9)", "fault 3").counts(0, 11);
        new Probe(100, 5, 10).gives("(F 1 2 3 4 5 6 7 (ATOM 1) 9)", "fault 8").counts(0, 10);
        new Probe(100, 5, 11).gives("(F 1 2 3 4 5 6 7 (ATOM 1) . 9)", "fault 3").counts(0, 11);
        new Probe(100, 5, 10).gives("(F 1 2 3 4 5 6 7 (ATOM 1) . 9)", "fault 8").counts(0, 10);
        new Probe(100, 5, 12).gives("(F 1 2 3 4 5 6 7 (ATOM 1))", "fault 1").counts(0, 12);
        new Probe(100, 5, 11).gives("(F 1 2 3 4 5 6 7 (ATOM 1))", "fault 8").counts(0, 11);
    }

    public static void main(String[] args) {
        evaluating();
        applying();
        inPlace();
        limit();
        Probe.end();
    }
}
