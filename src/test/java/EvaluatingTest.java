/** Promise 4 with EVALUATING: what expressions are, and faults 1, 3 and 5. */
public final class EvaluatingTest {
    private static void themselves() {
        Probe.sentence("a number, NIL or T: itself");
        Probe.fresh("NIL T 0 -5", "NIL", "T", "0", "-5");
        Probe.fresh("((LAMBDA (NIL T) NIL) 1 2)", "NIL");
        Probe.fresh("((LAMBDA (NIL T) T) 1 2)", "T");
        Probe.fresh("((LABEL T (LAMBDA () T)))", "T");
        Probe.fresh("((LABEL NIL (LAMBDA () NIL)))", "NIL");
    }

    private static void firstPair() {
        Probe.sentence("the CDR of the first pair of a whose CAR it is");
        Probe.fresh("((LAMBDA (X X) X) 1 2)", "1");
        Probe.fresh("((LAMBDA (Y X X) X) 1 2 3)", "2");
        Probe.fresh("((LAMBDA (X) ((LAMBDA (X) X) 2)) 1)", "2");
        Probe.fresh("((LAMBDA (X) ((LAMBDA (Y) X) 2)) 1)", "1");
        Probe.fresh("((LAMBDA (X) ((LABEL X (LAMBDA () X)))) 1)", "(LAMBDA NIL X)");
        Probe.fresh("((LAMBDA (A B C D E F G H) (CONS A (CONS D H))) 1 2 3 4 5 6 7 8)", "(1 4 . 8)");
        // What it is bound to may be NIL, and is a binding all the same.
        Probe.fresh("(DEFINE X 5) ((LAMBDA (X) X) NIL)", "X", "NIL");
        // Bindings are those of the caller, not those of the place where the function stands; they end with it.
        Probe.fresh("(DEFINE F (LAMBDA () X)) (F) ((LAMBDA (X) (F)) 3) (F)", "F", "fault 1", "3", "fault 1");
        Probe.fresh("(CONS ((LAMBDA (X) X) 1) X)", "fault 1");
        Probe.fresh("((LAMBDA (X) (CONS ((LAMBDA (X) X) 1) X)) 2)", "(1 . 2)");
        Probe.fresh("(DEFINE F (LAMBDA (Y) X)) ((LAMBDA (X) (F ((LAMBDA (X) X) 1))) 2)", "F", "2");
        // The value of a name is not evaluated again.
        Probe.fresh("((LAMBDA (X) X) (QUOTE Y))", "Y");
        Probe.fresh("((LAMBDA (X) X) (QUOTE (CAR 1)))", "(CAR 1)");
    }

    private static void globals() {
        Probe.sentence("without one its GLOBAL; without that fault 1");
        Probe.fresh("(DEFINE X 5) ((LAMBDA (X) X) 6) X ((LAMBDA (Y) X) 6)", "X", "6", "5", "5");
        Probe.fresh("X", "fault 1");
        Probe.fresh("(DEFINE X 1) X1", "X", "fault 1");
        Probe.fresh("(DEFINE X NIL) X", "X", "NIL");
        Probe.fresh("((LAMBDA (Y) X) 1)", "fault 1");
        Probe.fresh("CAR", "fault 1");
        Probe.fresh("QUOTE", "fault 1");
        Probe.fresh("(DEFINE CAR 7) CAR (CAR (QUOTE (1)))", "CAR", "7", "1");
    }

    private static void quote() {
        Probe.sentence("(QUOTE x): x. With more or less in it: fault 3");
        Probe.fresh("(QUOTE A)", "A");
        Probe.fresh("(QUOTE (QUOTE A))", "(QUOTE A)");
        Probe.fresh("(QUOTE)", "fault 3");
        Probe.fresh("(QUOTE A B)", "fault 3");
        Probe.fresh("(QUOTE A B C)", "fault 3");
        Probe.fresh("(QUOTE A . B)", "fault 3");
        Probe.fresh("(QUOTE . A)", "fault 3");
        Probe.fresh("(QUOTE . 1)", "fault 3");
        Probe.fresh("(QUOTE A . NIL)", "A");
        Probe.fresh("(DEFINE QUOTE CAR) (QUOTE A)", "QUOTE", "A");
        Probe.fresh("((LAMBDA (QUOTE) (QUOTE A)) 1)", "A");
    }

    private static void cond() {
        Probe.sentence("(COND c d ..): if the value of p is not NIL, e is evaluated; if it is, (COND d ..) is");
        Probe.fresh("(COND (T 1))", "1");
        Probe.fresh("(COND (0 1))", "1");
        Probe.fresh("(COND ((QUOTE (NIL)) 1))", "1");
        Probe.fresh("(COND ((QUOTE A) 1))", "1");
        Probe.fresh("(COND (NIL 1) (5 2))", "2");
        Probe.fresh("(COND (() 1) (5 2))", "2");
        Probe.fresh("(COND (T 1) (5 2))", "1");
        Probe.fresh("(COND (NIL 1) (NIL 2) (T 3) (T 4))", "3");
        Probe.fresh("(COND (T NIL) (T 4))", "NIL");
        Probe.fresh("(COND (T X) (T 4))", "fault 1");
        Probe.fresh("(COND (NIL X) (T 4) (Y 5))", "4");
        Probe.fresh("(COND (T (CAR (QUOTE (6)))))", "6");
        Probe.fresh("((LAMBDA (X) (COND ((NULL X) 1) ((EQ X 2) X) (T 3))) 2)", "2");
        // e and (COND d ..) have the bindings of the COND, not those that p has made.
        Probe.fresh("((LAMBDA (X) (COND (((LAMBDA (X) X) 2) X))) 1)", "1");
        Probe.fresh("((LAMBDA (X) (COND (((LAMBDA (X) NIL) 2) 5) (T X))) 1)", "1");
        Probe.fresh("((LAMBDA (X) (COND (((LAMBDA (X) NIL) 2) 5) (((LAMBDA (X) T) 3) X))) 1)", "1");
        Probe.sentence("(COND): fault 5");
        Probe.fresh("(COND)", "fault 5");
        Probe.fresh("(COND . NIL)", "fault 5");
        Probe.fresh("(COND (NIL 1))", "fault 5");
        Probe.fresh("(COND (NIL 1) (NIL 2))", "fault 5");
    }

    private static void condOtherwise() {
        Probe.sentence("each (p e): with more or less in them, or other things there: fault 3");
        Probe.fresh("(COND T)", "fault 3");
        Probe.fresh("(COND NIL)", "fault 3");
        Probe.fresh("(COND 5)", "fault 3");
        Probe.fresh("(COND (T))", "fault 3");
        Probe.fresh("(COND (NIL))", "fault 3");
        Probe.fresh("(COND (T 1 2))", "fault 3");
        Probe.fresh("(COND (NIL 1 2))", "fault 3");
        Probe.fresh("(COND (T 1 . 2))", "fault 3");
        Probe.fresh("(COND (T . 1))", "fault 3");
        Probe.fresh("(COND . T)", "fault 3");
        Probe.fresh("(COND . 5)", "fault 3");
        Probe.fresh("(COND (NIL 1) . T)", "fault 3");
        Probe.fresh("(COND (NIL 1) (T))", "fault 3");
        Probe.fresh("(COND (NIL 1) 5)", "fault 3");
        Probe.fresh("(COND (NIL 1) (NIL 2 3) (T 4))", "fault 3");
        // A wrong first one is told ahead of what is in it.
        Probe.fresh("(COND (X))", "fault 3");
        Probe.fresh("(COND (X 1 2))", "fault 3");
        // What is behind a clause is looked at when a COND of it is evaluated.
        Probe.fresh("(COND (T 1) 5)", "1");
        Probe.fresh("(COND (T 1) . 5)", "1");
    }

    private static void define() {
        Probe.sentence("(DEFINE n x): x becomes the GLOBAL of the name n (neither NIL nor T); n");
        Probe.fresh("(DEFINE X 5) X (DEFINE X Y) X (DEFINE X (CAR 1)) X", "X", "5", "X", "Y", "X", "(CAR 1)");
        Probe.fresh("(CAR (DEFINE X 1)) X", "fault 2", "1");
        Probe.fresh("((LAMBDA (X) (DEFINE X 1)) 2) X", "X", "1");
        Probe.fresh("((LAMBDA (X) (CONS (DEFINE X 1) X)) 2)", "(X . 2)");
        Probe.fresh("(DEFINE NIL 1)", "fault 3");
        Probe.fresh("(DEFINE T 1)", "fault 3");
        Probe.fresh("(DEFINE () 1)", "fault 3");
        Probe.fresh("(DEFINE T1 1) T1", "T1", "1");
        Probe.fresh("(DEFINE NILS 1) NILS", "NILS", "1");
        Probe.fresh("(DEFINE LESSP 1) LESSP", "LESSP", "1");
        Probe.fresh("(DEFINE DEFINE 1) (DEFINE X DEFINE) X", "DEFINE", "X", "DEFINE");
        Probe.sentence("DEFINE with more or less in it, or other things there: fault 3");
        Probe.fresh("(DEFINE)", "fault 3");
        Probe.fresh("(DEFINE X)", "fault 3");
        Probe.fresh("(DEFINE X 1 2)", "fault 3");
        Probe.fresh("(DEFINE X 1 . 2)", "fault 3");
        Probe.fresh("(DEFINE X . 1)", "fault 3");
        Probe.fresh("(DEFINE . X)", "fault 3");
        Probe.fresh("(DEFINE 5 1)", "fault 3");
        Probe.fresh("(DEFINE 0 1)", "fault 3");
        Probe.fresh("(DEFINE -1 1)", "fault 3");
        Probe.fresh("(DEFINE (X) 1)", "fault 3");
        // What is refused leaves the global as it was.
        Probe.fresh("(DEFINE X 1) (DEFINE X 2 3) (DEFINE X) X", "X", "fault 3", "fault 3", "1");
    }

    private static void order() {
        Probe.sentence("(f x ..): x .. are evaluated from the left to the right");
        Probe.fresh("(CONS (CAR 1) X)", "fault 2");
        Probe.fresh("(CONS X (CAR 1))", "fault 1");
        Probe.fresh("(CONS (DEFINE X 1) X)", "(X . 1)");
        Probe.fresh("(CONS X (DEFINE X 1))", "fault 1");
        Probe.fresh("(DIFFERENCE 5 3)", "2");
        Probe.fresh("((LAMBDA (A B C D E F G H) (CONS A (CONS B (CONS C (CONS D (CONS E (CONS F (CONS G H))))))))"
            + " 1 2 3 4 5 6 7 8)", "(1 2 3 4 5 6 7 . 8)");
        // f comes behind them.
        Probe.fresh("(1 X)", "fault 1");
        Probe.fresh("((CAR 1) X)", "fault 1");
        Probe.fresh("(F (DEFINE F ATOM))", "T");
        Probe.fresh("(F)", "fault 1");
        Probe.fresh("(DEFINE F (LAMBDA () 7)) (F)", "F", "7");
    }

    private static void ninth() {
        Probe.sentence("a ninth one: fault 3 when it is come to");
        Probe.fresh("((LAMBDA (A B C D E F G) G) 1 2 3 4 5 6 7)", "7");
        Probe.fresh("((LAMBDA (A B C D E F G H) H) 1 2 3 4 5 6 7 8)", "8");
        Probe.fresh("((LAMBDA (A B C D E F G H I) I) 1 2 3 4 5 6 7 8 9)", "fault 3");
        Probe.wide().gives("(X 1 2 3 4 5 6 7 8)", "fault 1").counts(0, 10);
        Probe.wide().gives("(X 1 2 3 4 5 6 7 8 9)", "fault 3").counts(0, 9).counts(3, 1);
        Probe.wide().gives("(X 1 2 3 4 5 6 7 8 9 10)", "fault 3").counts(0, 9);
        Probe.wide().gives("(X 1 2 3 4 5 6 7 8 Y)", "fault 3").counts(0, 9);
        Probe.wide().gives("(X 1 2 3 4 5 6 7 Y 9)", "fault 1").counts(0, 9);
        Probe.fresh("(X 1 2 3 4 5 6 7 (DEFINE Y 8) 9) Y", "fault 3", "8");
    }

    private static void lastCdr() {
        Probe.sentence("a last CDR that is not NIL: fault 3 when it is come to");
        Probe.wide().gives("(CAR . 1)", "fault 3").counts(0, 1).counts(3, 0);
        Probe.wide().gives("(X . Y)", "fault 3").counts(0, 1);
        Probe.wide().gives("(1 . 2)", "fault 3").counts(0, 1);
        Probe.wide().gives("(CAR (QUOTE (A)) . 1)", "fault 3").counts(0, 2).counts(3, 1);
        Probe.wide().gives("(CAR X . 1)", "fault 1").counts(0, 2);
        Probe.wide().gives("(X 1 2 3 4 5 6 7 . 8)", "fault 3").counts(0, 8);
        Probe.wide().gives("(X 1 2 3 4 5 6 7 8 . 9)", "fault 3").counts(0, 9);
        Probe.fresh("(X (DEFINE Y 8) . T) Y", "fault 3", "8");
        Probe.fresh("(ATOM . (1))", "T");
        Probe.fresh("(ATOM 1 . NIL)", "T");
        Probe.fresh("(NULL . NIL)", "fault 3");
    }

    public static void main(String[] args) {
        themselves();
        firstPair();
        globals();
        quote();
        cond();
        condOtherwise();
        define();
        order();
        ninth();
        lastCdr();
        Probe.end();
    }
}
