/** Promise 4 with APPLYING: what functions are, and faults 1 to 4. */
public final class ApplyingTest {
    /** The greatest and the least int; neither can be written as a number. */
    private static final String MOST = "(PLUS (TIMES 999999999 2) 147483649)";
    private static final String LEAST = "(DIFFERENCE (TIMES -999999999 2) 147483650)";

    private static void numberOfValues() {
        Probe.sentence("to the right number of values, otherwise fault 3");
        for (String name : new String[] {"CAR", "CDR", "ATOM", "NULL", "NUMBERP"}) {
            Probe.fresh("(" + name + ")", "fault 3");
            Probe.fresh("(" + name + " (QUOTE (NIL)) (QUOTE (NIL)))", "fault 3");
            Probe.fresh("(" + name + " 1 2 3 4 5 6 7 8)", "fault 3");
        }
        Probe.fresh("(CAR (QUOTE (A)))", "A");
        Probe.fresh("(CDR (QUOTE (A)))", "NIL");
        Probe.fresh("(ATOM (QUOTE (A)))", "NIL");
        Probe.fresh("(NULL (QUOTE (A)))", "NIL");
        Probe.fresh("(NUMBERP (QUOTE (A)))", "NIL");
        for (String name : new String[] {"CONS", "EQ", "PLUS", "DIFFERENCE", "TIMES", "LESSP"}) {
            Probe.fresh("(" + name + ")", "fault 3");
            Probe.fresh("(" + name + " (QUOTE (1)))", "fault 3");
            Probe.fresh("(" + name + " 1)", "fault 3");
            Probe.fresh("(" + name + " 1 1 1)", "fault 3");
            Probe.fresh("(" + name + " T T T)", "fault 3");
            Probe.fresh("(" + name + " 1 2 3 4 5 6 7 8)", "fault 3");
        }
        Probe.fresh("(CONS 3 3) (EQ 3 3) (PLUS 3 3) (DIFFERENCE 3 3) (TIMES 3 3) (LESSP 3 3)",
            "(3 . 3)", "T", "6", "0", "9", "NIL");
    }

    private static void parts() {
        Probe.sentence("CAR, CDR (of an atom: fault 2)");
        Probe.fresh("(CAR (QUOTE (A . B)))", "A");
        Probe.fresh("(CDR (QUOTE (A . B)))", "B");
        Probe.fresh("(CAR (QUOTE ((1 2) 3)))", "(1 2)");
        for (String atom : new String[] {"NIL", "T", "0", "1", "-1", "(QUOTE A)", "()"}) {
            Probe.fresh("(CAR " + atom + ")", "fault 2");
            Probe.fresh("(CDR " + atom + ")", "fault 2");
        }
    }

    private static void pairs() {
        Probe.sentence("CONS: a new pair; ATOM; NULL; NUMBERP. What is true is T, else NIL");
        Probe.fresh("(CONS 1 2)", "(1 . 2)");
        Probe.fresh("(CONS NIL NIL)", "(NIL)");
        Probe.fresh("(CONS (QUOTE (1)) (QUOTE (2)))", "((1) 2)");
        Probe.fresh("(ATOM 1) (ATOM NIL) (ATOM T) (ATOM (QUOTE A)) (ATOM (QUOTE (1))) (ATOM (CONS 1 2))",
            "T", "T", "T", "T", "NIL", "NIL");
        Probe.fresh("(NULL NIL) (NULL ()) (NULL 0) (NULL T) (NULL (QUOTE A)) (NULL (QUOTE (NIL)))",
            "T", "T", "NIL", "NIL", "NIL", "NIL");
        Probe.fresh("(NUMBERP 0) (NUMBERP -1) (NUMBERP NIL) (NUMBERP T) (NUMBERP (QUOTE A)) (NUMBERP (QUOTE (1)))",
            "T", "T", "NIL", "NIL", "NIL", "NIL");
        Probe.fresh("(NUMBERP " + MOST + ") (NUMBERP " + LEAST + ")", "T", "T");
        Probe.fresh("(ATOM " + MOST + ") (ATOM " + LEAST + ")", "T", "T");
    }

    private static void eq() {
        Probe.sentence("EQ of atoms (others: fault 2)");
        Probe.fresh("(EQ 1 1) (EQ 1 2) (EQ 1 -1) (EQ 999 999)", "T", "NIL", "NIL", "T");
        Probe.fresh("(EQ (QUOTE A) (QUOTE A)) (EQ (QUOTE A) (QUOTE B)) (EQ (QUOTE A) 1) (EQ 0 NIL) (EQ 1 T)",
            "T", "NIL", "NIL", "NIL", "NIL");
        Probe.fresh("(EQ NIL ()) (EQ T NIL) (EQ T T)", "T", "NIL", "T");
        Probe.fresh("(EQ " + MOST + " " + LEAST + ")", "NIL");
        Probe.fresh("(EQ " + MOST + " " + MOST + ")", "T");
        Probe.fresh("(EQ 1 (QUOTE (1)))", "fault 2");
        Probe.fresh("(EQ (QUOTE (1)) 1)", "fault 2");
        Probe.fresh("(EQ (QUOTE (1)) (QUOTE (1)))", "fault 2");
        Probe.fresh("((LAMBDA (X) (EQ X X)) (QUOTE (1)))", "fault 2");
        Probe.fresh("(EQ NIL (QUOTE (1)))", "fault 2");
    }

    private static void reckoning() {
        Probe.sentence("PLUS, DIFFERENCE, TIMES (wrapping): of numbers");
        Probe.fresh("(PLUS 1 -2) (DIFFERENCE 1 -2) (TIMES -3 4)", "-1", "3", "-12");
        Probe.fresh(MOST, "2147483647");
        Probe.fresh(LEAST, "-2147483648");
        Probe.fresh("(PLUS " + MOST + " 0)", "2147483647");
        Probe.fresh("(PLUS " + MOST + " 1)", "-2147483648");
        Probe.fresh("(PLUS " + LEAST + " -1)", "2147483647");
        Probe.fresh("(DIFFERENCE " + LEAST + " 0)", "-2147483648");
        Probe.fresh("(DIFFERENCE " + LEAST + " 1)", "2147483647");
        Probe.fresh("(DIFFERENCE " + MOST + " -1)", "-2147483648");
        Probe.fresh("(DIFFERENCE 0 " + LEAST + ")", "-2147483648");
        Probe.fresh("(TIMES " + LEAST + " -1)", "-2147483648");
        Probe.fresh("(TIMES " + MOST + " -1)", "-2147483647");
        Probe.fresh("(TIMES " + MOST + " " + MOST + ")", "1");
        Probe.fresh("(TIMES 32768 65535) (TIMES 32768 65536) (TIMES 65536 65536)", "2147450880", "-2147483648", "0");
        Probe.fresh("(EQ (PLUS " + MOST + " 1) " + LEAST + ")", "T");
    }

    private static void lessp() {
        Probe.sentence("LESSP: of numbers");
        Probe.fresh("(LESSP 1 2) (LESSP 2 2) (LESSP 3 2) (LESSP -1 0) (LESSP 0 -1) (LESSP 0 0)",
            "T", "NIL", "NIL", "T", "NIL", "NIL");
        // Their difference would wrap.
        Probe.fresh("(LESSP " + LEAST + " " + MOST + ")", "T");
        Probe.fresh("(LESSP " + MOST + " " + LEAST + ")", "NIL");
        Probe.fresh("(LESSP " + LEAST + " 1)", "T");
        Probe.fresh("(LESSP " + MOST + " -1)", "NIL");
    }

    private static void noNumbers() {
        Probe.sentence("of numbers (others: fault 2)");
        for (String name : new String[] {"PLUS", "DIFFERENCE", "TIMES", "LESSP"}) {
            for (String other : new String[] {"NIL", "T", "(QUOTE A)", "(QUOTE (1))"}) {
                Probe.fresh("(" + name + " 1 " + other + ")", "fault 2");
                Probe.fresh("(" + name + " " + other + " 1)", "fault 2");
                Probe.fresh("(" + name + " " + other + " " + other + ")", "fault 2");
            }
        }
    }

    private static void names() {
        Probe.sentence("Another name: what it is bound to as above (or faults 1) is applied");
        Probe.fresh("(DEFINE F G) (DEFINE G CAR) (F (QUOTE (A)))", "F", "G", "A");
        Probe.fresh("(DEFINE F G) (F)", "F", "fault 1");
        Probe.fresh("(DEFINE F 5) (F)", "F", "fault 4");
        Probe.fresh("(DEFINE F NIL) (F)", "F", "fault 4");
        Probe.fresh("(DEFINE F CAR) ((LAMBDA (F) (F (QUOTE (1 2)))) (QUOTE CDR))", "F", "(2)");
        Probe.fresh("((LAMBDA (F) (F 3)) (QUOTE (LAMBDA (X) (TIMES X X))))", "9");
        // The eleven functions are what they are, whatever is bound to their names.
        Probe.fresh("((LAMBDA (CAR) (CAR CAR)) (QUOTE (1)))", "1");
        Probe.fresh("((LABEL CAR CDR) (QUOTE (1 2)))", "(2)");
        Probe.fresh("(DEFINE LESSP CONS) (LESSP 1 2)", "LESSP", "T");
        // The words of forms are other names where a function is applied.
        Probe.fresh("(LAMBDA (X) X)", "fault 1");
        Probe.fresh("(LABEL X X)", "fault 1");
        for (String word : new String[] {"QUOTE", "COND", "DEFINE", "LAMBDA", "LABEL"}) {
            Probe.fresh("((QUOTE " + word + ") 1)", "fault 1");
            Probe.fresh("(DEFINE " + word + " CAR) ((QUOTE " + word + ") (QUOTE (1)))", word, "1");
        }
    }

    private static void noFunctions() {
        Probe.sentence("A number, NIL, T: fault 4");
        for (String atom : new String[] {"1", "0", "-1", "NIL", "T", "()"}) {
            Probe.fresh("(" + atom + ")", "fault 4");
            Probe.fresh("(" + atom + " 1)", "fault 4");
            Probe.fresh("(" + atom + " 1 2 3 4 5 6 7 8)", "fault 4");
            Probe.fresh("((QUOTE " + atom + "))", "fault 4");
            Probe.fresh("((LABEL F " + atom + "))", "fault 4");
        }
        Probe.fresh("((LAMBDA (T NIL) (T 1)) (QUOTE ATOM) (QUOTE ATOM))", "fault 4");
        Probe.fresh("((LAMBDA (T NIL) (NIL 1)) (QUOTE ATOM) (QUOTE ATOM))", "fault 4");
    }

    private static void lambda() {
        Probe.sentence("(LAMBDA (n ..) e): for each a pair of it and its value, in front of a, the first one first");
        Probe.fresh("((LAMBDA () 1))", "1");
        Probe.fresh("((LAMBDA NIL 1))", "1");
        Probe.fresh("((LAMBDA (X) X) 1)", "1");
        Probe.fresh("((LAMBDA (X Y) (CONS Y X)) 1 2)", "(2 . 1)");
        Probe.fresh("((LAMBDA (X X) X) 1 2)", "1");
        Probe.fresh("((LAMBDA (X X X) X) 1 2 3)", "1");
        Probe.fresh("((LAMBDA (X) ((LAMBDA (Y X) X) 2 3)) 1)", "3");
        Probe.fresh("((LAMBDA (A B C D E F G H) (CONS A H)) 1 2 3 4 5 6 7 8)", "(1 . 8)");
        Probe.fresh("((LAMBDA (NIL T CAR QUOTE) CAR) 1 2 3 4)", "3");
        Probe.sentence("LAMBDA to the right number of values, otherwise fault 3");
        Probe.fresh("((LAMBDA (X) 1))", "fault 3");
        Probe.fresh("((LAMBDA () 1) 2)", "fault 3");
        Probe.fresh("((LAMBDA (X) 1) 2 3)", "fault 3");
        Probe.fresh("((LAMBDA (X Y) 1) 2)", "fault 3");
        Probe.fresh("((LAMBDA (A B C D E F G) 1) 1 2 3 4 5 6 7 8)", "fault 3");
        Probe.fresh("((LAMBDA (A B C D E F G H) 1) 1 2 3 4 5 6 7)", "fault 3");
        Probe.fresh("((LAMBDA (A B C D E F G H I) 1) 1 2 3 4 5 6 7 8)", "fault 3");
    }

    private static void lambdaOtherwise() {
        Probe.sentence("LAMBDA or LABEL otherwise: fault 3 (LAMBDA)");
        Probe.fresh("((LAMBDA X X) 1)", "fault 3");
        Probe.fresh("((LAMBDA X X))", "fault 3");
        Probe.fresh("((LAMBDA 1 1))", "fault 3");
        Probe.fresh("((LAMBDA (X . Y) X) 1)", "fault 3");
        Probe.fresh("((LAMBDA (X . Y) X) 1 2)", "fault 3");
        Probe.fresh("((LAMBDA (X . 1) X) 1)", "fault 3");
        Probe.fresh("((LAMBDA (1) 1) 1)", "fault 3");
        Probe.fresh("((LAMBDA (X 1) 1) 1 2)", "fault 3");
        Probe.fresh("((LAMBDA (1 X) 1) 1 2)", "fault 3");
        Probe.fresh("((LAMBDA ((X)) 1) 1)", "fault 3");
        Probe.fresh("((LAMBDA (X (Y)) 1) 1 2)", "fault 3");
        Probe.fresh("((LAMBDA))", "fault 3");
        Probe.fresh("((LAMBDA ()))", "fault 3");
        Probe.fresh("((LAMBDA (X)) 1)", "fault 3");
        Probe.fresh("((LAMBDA (X) X X) 1)", "fault 3");
        Probe.fresh("((LAMBDA (X) X . X) 1)", "fault 3");
        Probe.fresh("((LAMBDA (X) . X) 1)", "fault 3");
        Probe.fresh("((LAMBDA . X) 1)", "fault 3");
        Probe.fresh("((LAMBDA () 1 2))", "fault 3");
        Probe.fresh("((LAMBDA () . 1))", "fault 3");
    }

    private static void label() {
        Probe.sentence("(LABEL n g), n being a name: g is applied with a pair of n and g in front of a");
        Probe.fresh("((LABEL F CAR) (QUOTE (1)))", "1");
        Probe.fresh("((LABEL NIL CAR) (QUOTE (1)))", "1");
        Probe.fresh("((LABEL T CAR) (QUOTE (1)))", "1");
        Probe.fresh("((LABEL F (LAMBDA (X) F)) 1)", "(LAMBDA (X) F)");
        Probe.fresh("((LABEL F (LABEL G (LAMBDA () (CONS F G)))))",
            "((LABEL G (LAMBDA NIL (CONS F G))) LAMBDA NIL (CONS F G))");
        Probe.fresh("((LABEL F (LABEL F (LAMBDA () F))))", "(LAMBDA NIL F)");
        Probe.fresh("((LABEL F (LAMBDA (F) F)) 1)", "1");
        Probe.fresh("((LABEL F (CAR (QUOTE (ATOM)))) 1)", "T");
        Probe.fresh("((LABEL F F))", "fault 8");
        Probe.fresh("((LABEL F (LAMBDA (N) (COND ((LESSP N 2) 1) (T (TIMES N (F (DIFFERENCE N 1))))))) 10)", "3628800");
        Probe.fresh("((LABEL F G))", "fault 1");
        Probe.sentence("LAMBDA or LABEL otherwise: fault 3 (LABEL)");
        Probe.fresh("((LABEL 5 CAR) (QUOTE (1)))", "fault 3");
        Probe.fresh("((LABEL (F) CAR) (QUOTE (1)))", "fault 3");
        Probe.fresh("((LABEL))", "fault 3");
        Probe.fresh("((LABEL F))", "fault 3");
        Probe.fresh("((LABEL F) 1)", "fault 3");
        Probe.fresh("((LABEL F ATOM CDR) 1)", "fault 3");
        Probe.fresh("((LABEL F ATOM . CDR) 1)", "fault 3");
        Probe.fresh("((LABEL F . ATOM) 1)", "fault 3");
        Probe.fresh("((LABEL . F) 1)", "fault 3");
    }

    private static void otherPairs() {
        Probe.sentence("Another pair: it is evaluated with a, its value is applied");
        Probe.fresh("((CAR (QUOTE (CDR))) (QUOTE (1 . 2)))", "2");
        Probe.fresh("((QUOTE ATOM) 1)", "T");
        Probe.fresh("((COND (T (QUOTE (LAMBDA (X) (PLUS X X))))) 4)", "8");
        Probe.fresh("((LAMBDA (F) ((CAR F) 5)) (QUOTE (NUMBERP)))", "T");
        Probe.fresh("((DEFINE F ATOM) 1)", "T");
        Probe.fresh("((CAR 1) 1)", "fault 2");
        Probe.fresh("((F) 1)", "fault 1");
        Probe.fresh("((1) 1)", "fault 4");
        Probe.fresh("((QUOTE 1))", "fault 4");
        Probe.fresh("((QUOTE (QUOTE ATOM)) 1)", "T");
        // The values are those from before, though f has evaluated others.
        Probe.fresh("((CAR (CONS (QUOTE CONS) (CONS 8 9))) 1 2)", "(1 . 2)");
        // A value that is applied has the bindings of the call, not those of f's own evaluating.
        Probe.fresh("(((LAMBDA (X) (QUOTE (LAMBDA () X))) 1))", "fault 1");
        Probe.fresh("((LAMBDA (X) (((LAMBDA (X) (QUOTE (LAMBDA () X))) 1))) 2)", "2");
    }

    public static void main(String[] args) {
        numberOfValues();
        parts();
        pairs();
        eq();
        reckoning();
        lessp();
        noNumbers();
        names();
        noFunctions();
        lambda();
        lambdaOtherwise();
        label();
        otherPairs();
        Probe.end();
    }
}
