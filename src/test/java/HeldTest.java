/** Promise 4 with HELD: what is held, how many pairs are wanted, and fault 6 exactly when it is due. */
public final class HeldTest {
    /**
     * A text needs so many cells: with these, and with one more, it gives the answer; with one less it has fault 6
     * behind so many steps.
     */
    private static void needs(String text, int cells, String answer, int stepsAtFault, String... before) {
        for (int limit = cells - 1; limit <= cells + 1; limit++) {
            Probe probe = new Probe(limit, 50, 500);
            for (String definition : before) {
                probe.write(definition);
                Probe.due(definition + " with " + limit, "1", probe.nextKind());
            }
            probe.gives(text, limit >= cells ? answer : "fault 6");
            if (limit < cells) {
                probe.counts(0, stepsAtFault);
            }
        }
    }

    /** As needs, beside the pairs of MK, which makes so many; the fault is behind steps and all of MK's. */
    private static void needsBesideMaker(int made, String text, int cells, String answer, int steps) {
        needs(text, Texts.pairsOfMaker(made) + cells, answer, steps + Texts.stepsOfMaker(made), Texts.maker(made));
    }

    /** The list that MK makes. */
    private static String made(int pairs) {
        return "(" + "1 ".repeat(pairs) + ". 1)";
    }

    /** A global of so many pairs. */
    private static String pad(int pairs) {
        return "(DEFINE P (" + "1 ".repeat(pairs) + "))";
    }

    private static void reading() {
        Probe.sentence("Pairs wanted: as many as an expression is made of");
        String fourteen = "1 2 3 4 5 6 7 8 9 10 11 12 13 14";
        new Probe(16, 4, 100).gives("(QUOTE (1 2 3 4 5 6 7 8 9 10 11 12 13))", "(1 2 3 4 5 6 7 8 9 10 11 12 13)");
        new Probe(16, 4, 100).gives("(QUOTE (" + fourteen + "))", "(" + fourteen + ")");
        new Probe(16, 4, 100).gives("(QUOTE (" + fourteen + " . 15))", "(" + fourteen + " . 15)");
        new Probe(16, 4, 100).gives("(QUOTE (" + fourteen + " 15))", "fault 6").counts(0, 0).counts(3, 0);
        new Probe(16, 4, 100).gives("(QUOTE (" + "() ".repeat(14) + "))", "(" + "NIL ".repeat(13) + "NIL)");
        new Probe(16, 4, 100).gives("(QUOTE ((((((((((((((1)))))))))))))))", "((((((((((((((1))))))))))))))");
        new Probe(16, 4, 100).gives("(QUOTE (((((((((((((((1))))))))))))))))", "fault 6");
        new Probe(16, 4, 100).gives("(QUOTE ((1 . 2) (3 . 4) (5 . 6) (7 . 8) (9 . 0) (1 . 2) (3 . 4)))",
            "((1 . 2) (3 . 4) (5 . 6) (7 . 8) (9 . 0) (1 . 2) (3 . 4))");
        new Probe(16, 4, 100).gives("(QUOTE ((1 . 2) (3 . 4) (5 . 6) (7 . 8) (9 . 0) (1 . 2) (3 . 4) 5))", "fault 6");
        // A FAULT of reading is none of an expression, however many pairs stand ahead of it.
        new Probe(16, 4, 100).gives("(" + "1 ".repeat(20), "place 41").tells(10);
        new Probe(16, 4, 100).gives("(" + "1 ".repeat(20) + ". )", "place 43").tells(10);
        // An atom is made of none, so that it is read beside any globals.
        Probe full = new Probe(16, 4, 100);
        full.gives(pad(13), "P").counts(1, 13).gives("5 () P T", "5", "NIL", made13(), "T");
        full.gives("(QUOTE A)(QUOTE (A))(QUOTE (A A))", "A", "(A)", "fault 6");
    }

    private static String made13() {
        return "(" + "1 ".repeat(12) + "1)";
    }

    private static void readingHolds() {
        Probe.sentence("when an expression is read, nothing else");
        String sixteen = "(QUOTE (1 2 3 4 5 6 7 8 9 10 11 12 13 14))";
        Probe probe = new Probe(16, 4, 100);
        for (int k = 0; k < 3; k++) {
            probe.write(sixteen);
            Probe.due("the value before is not held", "1", probe.nextKind());
        }
        probe.clear();
        // Neither are those that waited when a next() was at fault, nor an expression that was too large.
        probe.gives("(CONS (QUOTE (1 2 3)) (CAR X))", "fault 1");
        probe.write(sixteen);
        Probe.due("what waited is not held", "1", probe.nextKind());
        probe.gives("(QUOTE (1 2 3 4 5 6 7 8 9 10 11 12 13 14 15))", "fault 6");
        probe.write(sixteen);
        Probe.due("what was too large is not held", "1", probe.nextKind());
        probe.clear();
        probe.gives("((LAMBDA (X) (CAR X)) 1)", "fault 2");
        probe.write(sixteen);
        Probe.due("bindings are not held", "1", probe.nextKind());
    }

    private static void globals() {
        Probe.sentence("HELD are all pairs that can be come to by CAR and CDR from the GLOBALS");
        needs("(QUOTE (1 2 3 4 5 6 7 8 9 10))", 17, "(1 2 3 4 5 6 7 8 9 10)", 0, "(DEFINE X (1 2 3 4 5))");
        needs("(QUOTE (1 2 3 4 5 6 7 8 9 10))", 17, "(1 2 3 4 5 6 7 8 9 10)", 0, "(DEFINE X (((1 . 2) . 3) 4 . 5))",
            "(DEFINE Y (1))");
        // What was a global and is none more is not held.
        needs("(QUOTE (1 2 3 4 5 6 7 8 9 10 11 12 13))", 17, "(1 2 3 4 5 6 7 8 9 10 11 12 13)", 0,
            "(DEFINE X (1 2 3 4 5))", "(DEFINE Y (1 2))", "(DEFINE X 1)");
        // Two names of one list hold its pairs once.
        needs("(QUOTE (1 2 3 4 5 6 7))", 18, "(1 2 3 4 5 6 7)", 0, "(DEFINE F (LAMBDA () (DEFINE X (1 2 3))))", "(F)");
        // A global is held from its DEFINE on, in the same expression too; one that is replaced is not.
        needsBesideMaker(8, "(V (DEFINE X (1 2 3 4 5 6)) (MK))", 14, "fault 1", 2);
        needs("(V (DEFINE X 1) (MK))", 42 + 6 + 7, "fault 1", 0, Texts.maker(13), "(DEFINE X (1 2 3 4 5 6))");
    }

    private static void cons() {
        Probe.sentence("when CONS makes a pair, both its values; one by CONS");
        // The last CONS holds three and three, and wants one: six are needed ahead of it, five to read all.
        needs("(CONS (MK) (MK))", 12 + 7, "(" + made(3) + " 1 1 1 . 1)", 1 + 13 + 13 + 1, Texts.maker(3));
        // The bindings are held by what waits, not by the last CONS, for which nothing waits.
        needs("(F 1)", 15 + 5 + 5, made(4), 19, Texts.maker(4), "(DEFINE F (LAMBDA (Y) (MK)))");
        // A pair that both values come to is held once.
        new Probe(16, 4, 100).gives(pad(13), "P").gives("(CONS P P)", "((1 1 1 1 1 1 1 1 1 1 1 1 1)"
            + " 1 1 1 1 1 1 1 1 1 1 1 1 1)");
        // Of an expression only what waits is held: twelve pairs are read, and used again for four.
        new Probe(16, 8, 100).gives(pad(4), "P").gives("(CONS 1 (CONS 2 (CONS 3 (CONS 4 5))))", "(1 2 3 4 . 5)");
        new Probe(16, 8, 100).gives(pad(5), "P").gives("(CONS 1 (CONS 2 (CONS 3 (CONS 4 5))))", "fault 6").counts(0, 0);
    }

    private static void callsHold() {
        Probe.sentence("calls .., each with f");
        needsBesideMaker(4, "((QUOTE ATOM) (MK))", 6, "NIL", 1);
        Probe.sentence("calls .., each with .. the values so far");
        needs("(X (MK) (MK))", 15 + 8, "fault 1", 1 + 16 + 16, Texts.maker(4));
        for (int k = 0; k < 7; k++) {
            needs("(X " + "1 ".repeat(k) + "(MK)" + " 1".repeat(6 - k) + "(MK))", 30 + 18, "fault 1", 1 + 31 + 6 + 31,
                Texts.maker(9));
        }
        Probe.sentence("calls .., each with .. what stands behind the one that is being evaluated now");
        needsBesideMaker(4, "(X (MK) (QUOTE (1 2 3 4 5 6)))", 13, "fault 1", 1);
        needsBesideMaker(15, "(X (NULL (QUOTE (1 2 3 4 5 6))) (MK))", 15, "fault 1", 1 + 3);
        needsBesideMaker(6, "(X 1 2 (MK) 4 5 6)", 9, "fault 1", 3);
        needsBesideMaker(4, "(X (MK) . (1 . 2))", 5, "fault 3", 1);
        Probe.sentence("calls .., each with .. a");
        needsBesideMaker(8, "((LAMBDA (Y) (X (MK))) 1)", 10, "fault 1", 4);
        // A call holds its own values alone, not those of one that was done before it.
        needsBesideMaker(6, "(V (NULL (MK)) (ATOM (MK)))", 10, "fault 1", 2);
        needs("(V (F 1 2 (MK)) (MK))", 30 + 6 + 17, "fault 1", 4 + 31 + 2, Texts.maker(9),
            "(DEFINE F (LAMBDA (A B C) 1))");
        // When f is applied the call waits no more. The last CONS but one is waited for with a, the last is not.
        needs("((LAMBDA (Y) (MK)) 1)", 24 + 8, made(7), 3 + 24, Texts.maker(7));
    }

    private static void condsHold() {
        Probe.sentence("CONDs .., each with what is behind COND from this (p e) on");
        needsBesideMaker(4, "(COND ((MK) 1) (T 2))", 11, "1", 1);
        needsBesideMaker(6, "(COND (NIL 1) ((MK) 2))", 10, "2", 3);
        needsBesideMaker(2, "(COND ((MK) 1) (T (QUOTE (2 3 4))))", 14, "1", 1);
        needsBesideMaker(2, "(COND ((MK) (QUOTE (2 3 4))))", 11, "(2 3 4)", 1);
        Probe.sentence("CONDs .., each with .. a");
        needsBesideMaker(6, "((LAMBDA (Y) (COND ((MK) 1))) 1)", 12, "1", 4);
        // When e is evaluated the COND waits no more.
        needsBesideMaker(6, "(COND (T (MK)))", 6, made(6), 2);
        needsBesideMaker(9, "(COND (NIL 1) (T (MK)))", 9, made(9), 4);
    }

    private static void applyingsHold() {
        Probe.sentence("applyings whose f is being evaluated, with values");
        needsBesideMaker(6, "((MK) (QUOTE (1 2 3)))", 9, "fault 3", 3);
        for (int k = 0; k < 8; k++) {
            needsBesideMaker(13, "((MK) " + "1 ".repeat(k) + "(QUOTE (1 2 3))" + " 1".repeat(7 - k) + ")", 16,
                "fault 3", 1 + 8 + 1);
        }
        Probe.sentence("applyings whose f is being evaluated, with .. a");
        needsBesideMaker(7, "((LAMBDA (Y) ((MK))) 1)", 9, "fault 3", 5);
        // f itself is not held by it.
        needsBesideMaker(6, "((COND ((MK) (QUOTE ATOM))) (QUOTE (1 2 3)))", 15, "NIL", 4);
    }

    private static void lambdaHolds() {
        Probe.sentence("when LAMBDA .. binds, f, its values and a");
        needs("((LAMBDA (Y) Y) (MK))", 12 + 9, made(3), 1 + 13 + 1, Texts.maker(3));
        needs("(F 1)", 4 + 10 + 4, "1", 8, pad(4), "(DEFINE F (LAMBDA (Y) (H Y)))", "(DEFINE H (LAMBDA (Z) Z))");
        // Nothing else of the expression: ten pairs are read, five of them and four more are held then.
        needs("((LAMBDA (Y Z) 1) 1 (QUOTE A))", 8 + 10, "1", 0, pad(8));
        Probe.sentence("two for each name bound (LAMBDA)");
        new Probe(16, 4, 100).gives(pad(12), "P").gives("((LAMBDA () 1))", "1");
        new Probe(16, 4, 100).gives(pad(13), "P").gives("((LAMBDA () 1))", "fault 6").counts(0, 0);
        new Probe(16, 4, 100).gives(pad(10), "P").gives("((LAMBDA (Y) Y) 1)", "1");
        new Probe(16, 4, 100).gives(pad(11), "P").gives("((LAMBDA (Y) Y) 1)", "fault 6").counts(0, 0);
        needs("(F 1 2)", 9 + 5 + 4, "2", 5, pad(9), "(DEFINE F (LAMBDA (Y Z) Z))");
        needs("((LAMBDA (Y Z) Z) 1 2)", 9 + 9, "2", 4, pad(9));
        needs("((LAMBDA (A B C D E F G H) H) 1 2 3 4 5 6 7 8)", 27, "8", 10);
        // A wrong number of values, and a wrong form, are told ahead.
        new Probe(26, 4, 100).gives("((LAMBDA (A B C D E F G H) H) 1 2 3 4 5 6 7)", "fault 3");
        new Probe(26, 4, 100).gives("((LAMBDA (A B C D E F G 8) 8) 1 2 3 4 5 6 7 8)", "fault 3");
    }

    private static void labelHolds() {
        Probe.sentence("when .. LABEL binds, f, its values and a");
        needs("((LABEL F ATOM) (MK))", 12 + 8, "NIL", 1 + 13 + 1, Texts.maker(3));
        needs("(F 1)", 5 + 9 + 4, "T", 7, pad(5), "(DEFINE F (LAMBDA (Y) ((LABEL G ATOM) Y)))");
        Probe.sentence("two for each name bound (LABEL)");
        new Probe(16, 4, 100).gives(pad(11), "P").gives("((LABEL F ATOM) 1)", "T");
        new Probe(16, 4, 100).gives(pad(12), "P").gives("((LABEL F ATOM) 1)", "fault 6").counts(0, 0);
        // The third LABEL comes to the second by the binding of F, has four pairs of bindings, and wants two.
        needs("((LABEL F (LABEL G (LABEL H ATOM))) 1)", 5 + 6 + 4 + 2, "T", 5, pad(5));
        // A wrong form is told ahead.
        new Probe(16, 4, 100).gives(pad(5), "P").gives("((LABEL F (LABEL G (LABEL 1 ATOM))) 1)", "fault 3");
    }

    private static void example() {
        Probe.sentence("Fault 6, when these and those held are more than CELLS");
        String append = "(DEFINE APP (LAMBDA (X Y) (COND ((NULL X) Y) (T (CONS (CAR X) (APP (CDR X) Y))))))";
        // The third call of APP finds 35 pairs held, and wants four.
        needs("(APP (QUOTE (1 -2)) (QUOTE (3)))", 39, "(1 -2 3)", 39, append);
    }

    private static void usedAgain() {
        Probe.sentence("(What is not held may be used again.)");
        // A loop that makes pairs without end and holds few of them goes on until its steps are exhausted.
        Probe probe = new Probe(40, 10, 20000);
        probe.gives("(DEFINE F (LAMBDA () (COND ((NULL (CONS 1 2)) 1) (T (F)))))", "F");
        probe.gives("(F)", "fault 8").counts(0, 20000);
        // Bindings that are in front of one another are all held.
        probe.gives("(DEFINE G (LAMBDA (X) (G X)))", "G").gives("(G 1)", "fault 6");
        for (int k = 0; k < 15; k++) {
            probe.clear();
            probe.gives("(CONS 1 (CONS 2 (CONS 3 4)))", "(1 2 3 . 4)");
        }
    }

    public static void main(String[] args) {
        reading();
        readingHolds();
        globals();
        cons();
        callsHold();
        condsHold();
        applyingsHold();
        lambdaHolds();
        labelHolds();
        example();
        usedAgain();
        Probe.end();
    }
}
