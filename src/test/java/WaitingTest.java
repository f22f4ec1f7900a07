/** Promises 4 and 9 with WAITING: what waits, and fault 7 exactly when it is due. */
public final class WaitingTest {
    /** So many wait at most; with that many tasks all is well, with one less there is fault 7 behind some steps. */
    private static void waits(String text, int tasks, String answer, int stepsAtFault, String... before) {
        for (int limit = tasks - 1; limit <= tasks + 1; limit++) {
            Probe probe = new Probe(300, limit, 500);
            for (String definition : before) {
                probe.write(definition);
                Probe.due(definition, "1", probe.nextKind());
            }
            boolean enough = limit >= tasks;
            probe.gives(text, enough ? answer : "fault 7").counts(3, enough ? tasks : limit);
            if (!enough) {
                probe.counts(0, stepsAtFault);
            }
        }
    }

    private static void calls() {
        Probe.sentence("WAITING are: calls whose values are being evaluated");
        waits(Texts.atoms(5, "1"), 5, "T", 5);
        waits(Texts.atoms(6, "1"), 6, "T", 6);
        // The last value and the eighth are waited for as the first is, and a call waits once with all its values.
        waits("(CONS 1 (CONS 2 (CONS 3 (CONS 4 (CONS 5 6)))))", 5, "(1 2 3 4 5 . 6)", 9);
        waits("(CONS (CONS (CONS (CONS (CONS 1 2) 3) 4) 5) 6)", 5, "(((((1 . 2) . 3) . 4) . 5) . 6)", 5);
        waits("(F 1 2 3 4 5 6 7 " + Texts.atoms(4, "1") + ")", 5, "fault 1", 12);
        // A call without values does not wait, nor one whose function is applied, nor one that is wrong at once.
        waits(Texts.atoms(5, "(F)"), 5, "T", 5, "(DEFINE F (LAMBDA () 1))");
        waits("((LAMBDA (X) " + Texts.atoms(5, "X") + ") 1)", 5, "T", 8);
        waits("(F 1)", 5, "T", 9, "(DEFINE F (LAMBDA (X) " + Texts.atoms(5, "X") + "))");
        waits(Texts.atoms(5, "(F . 1)"), 5, "fault 3", 5);
        waits(Texts.atoms(5, "(QUOTE A)"), 5, "T", 5);
        waits(Texts.atoms(5, "(DEFINE X 1)"), 5, "T", 5);
        waits(Texts.atoms(5, "(CAR)"), 5, "fault 3", 5);
    }

    private static void conds() {
        Probe.sentence("WAITING are: .. CONDs whose p is being evaluated");
        String nested = "(COND ((COND ((COND ((COND ((COND (T T)) T)) T)) T)) T))";
        waits(nested, 5, "T", 5);
        waits(Texts.atoms(4, "(COND (NIL 1) (T 2))"), 5, "T", 5);
        // Each p is waited for, but one after the other; e is not.
        Probe.wide().gives("(COND (NIL 1) (NIL 2) (NIL 3) (T 4))", "4").counts(3, 1);
        Probe.wide().gives("(COND (T ".repeat(25) + "1" + "))".repeat(25), "1").counts(3, 1);
        waits("(COND (T " + Texts.atoms(5, "1") + "))", 5, "T", 7);
        waits("(COND (NIL 1) (T " + Texts.atoms(5, "1") + "))", 5, "T", 9);
        waits("(COND (NIL 1) (" + Texts.atoms(4, "1") + " 2))", 5, "2", 7);
        // One that is wrong at once does not wait.
        waits(Texts.atoms(5, "(COND)"), 5, "fault 5", 5);
        waits(Texts.atoms(5, "(COND 1)"), 5, "fault 3", 5);
        waits(Texts.atoms(5, "(COND (T))"), 5, "fault 3", 5);
        new Probe(100, 4, 20000).gives("((LABEL F (LAMBDA () (COND (T (F))))))", "fault 8").counts(3, 1);
    }

    private static void applyings() {
        Probe.sentence("WAITING are: .. applyings whose f is being evaluated");
        waits("((((((QUOTE (QUOTE (QUOTE (QUOTE (QUOTE ATOM)))))))))1)", 5, "fault 3", 11);
        waits("((CAR (CAR (CAR (CAR (QUOTE ((((ATOM))))))))) 1)", 5, "T", 7);
        // The call does not wait any more while its f is, nor does the applying when its value is applied.
        waits("((CAR (QUOTE (ATOM))) " + Texts.atoms(4, "1") + ")", 5, "T", 5);
        waits("((QUOTE (LAMBDA (X) " + Texts.atoms(5, "X") + ")) 1)", 5, "T", 10);
        Probe.wide().gives("((QUOTE ATOM) 1)", "T").counts(3, 1);
        Probe.wide().gives("((QUOTE (LAMBDA () 1)))", "1").counts(3, 1);
        // Names and functions that are applied as they are wait for nothing.
        Probe.wide().gives("((LAMBDA () 1))", "1").counts(3, 0);
        Probe.wide().gives("((LABEL F (LAMBDA () 1)))", "1").counts(3, 0);
        Probe.wide().gives("(F)", "fault 1").counts(3, 0);
    }

    private static void limit() {
        Probe.sentence("7, when there are as many waiting as TASKS and one more would be");
        new Probe(100, 4, 100).gives(Texts.atoms(3, "1"), "T").counts(3, 3).counts(0, 7);
        new Probe(100, 4, 100).gives(Texts.atoms(4, "1"), "T").counts(3, 4).counts(0, 9);
        new Probe(100, 4, 100).gives(Texts.atoms(5, "1"), "fault 7").counts(3, 4).counts(0, 5);
        // What waited when a next() was at fault does not wait in the following one.
        Probe again = new Probe(100, 4, 100);
        again.gives(Texts.atoms(5, "1") + Texts.atoms(4, "1") + " 1", "fault 7", "T").counts(3, 4);
        again.gives("", "1").counts(3, 0);
        // With the limit reached, what does not wait for more goes on.
        new Probe(100, 4, 100).gives(Texts.atoms(3, "(CONS 1 (F))"), "fault 1").counts(3, 4);
        new Probe(100, 4, 100).gives(Texts.atoms(3, "(CONS (F) (F))"), "fault 1").counts(3, 4);
    }

    /** Thirteen steps behind it, and all four tasks but one: what is given here meets both limits. */
    private static Probe both(String inner, int tasks, int steps, String answer, int stepsTaken) {
        String text = "(DEFINE F (LAMBDA () 1)) (X (F) (F) (ATOM (ATOM " + inner + ")))";
        return new Probe(100, tasks, steps).gives(text, "F", answer).counts(0, stepsTaken);
    }

    private static void sevenFirst() {
        Probe.sentence("(7 first, where something waits for what is begun then)");
        // A call's first value: twelve steps to (ATOM ..), the thirteenth begins it, its value would be the next.
        String call = "(ATOM (ATOM 1))";
        both(call, 4, 14, "fault 7", 13);
        both(call, 4, 13, "fault 7", 13);
        both(call, 4, 12, "fault 8", 12);
        both(call, 5, 13, "fault 8", 13);
        // The p of a COND.
        String cond = "(ATOM (COND (T 1)))";
        both(cond, 4, 14, "fault 7", 13);
        both(cond, 4, 13, "fault 7", 13);
        both(cond, 4, 12, "fault 8", 12);
        both(cond, 5, 13, "fault 8", 13);
        // What is left of a COND waits anew, in the place that it had: the fifteenth step begins a call in its p.
        both("(ATOM (COND (NIL 1) (T 2)))", 4, 15, "fault 7", 13);
        both("(COND (NIL 1) ((ATOM (ATOM 1)) 2))", 4, 16, "fault 7", 15);
        both("(COND (NIL 1) ((ATOM (ATOM 1)) 2))", 4, 15, "fault 7", 15);
        both("(COND (NIL 1) ((ATOM (ATOM 1)) 2))", 4, 14, "fault 8", 14);
        both("(COND (NIL 1) ((ATOM (ATOM 1)) 2))", 5, 15, "fault 8", 15);
        // An f that is evaluated: the applying is the fourteenth step, f's beginning would be the next.
        String applying = "(ATOM ((G)))";
        both(applying, 4, 15, "fault 7", 14);
        both(applying, 4, 14, "fault 7", 14);
        both(applying, 4, 13, "fault 8", 13);
        both(applying, 5, 14, "fault 8", 14);
        // As 7 is asked for first, what waits for a beginning that has fault 8 has waited, and is counted.
        both(call, 5, 13, "fault 8", 13).counts(3, 5);
        both(cond, 5, 13, "fault 8", 13).counts(3, 5);
        both(applying, 5, 14, "fault 8", 14).counts(3, 5);
        both(call, 5, 12, "fault 8", 12).counts(3, 4);
        // Where nothing more would wait, all tasks in use are no fault: a second value, what is applied, an e.
        both("(CONS 1 2)", 4, 13, "fault 8", 13);
        both("(ATOM (F))", 4, 13, "fault 8", 13);
        both("(ATOM 1)", 4, 13, "fault 8", 13);
        both("(COND (T 1))", 4, 13, "fault 8", 13);
    }

    public static void main(String[] args) {
        calls();
        conds();
        applyings();
        limit();
        sevenFirst();
        Probe.end();
    }
}
