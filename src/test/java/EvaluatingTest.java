/** Promise 4: what evaluating and applying answer, and faults 1 to 5. */
public final class EvaluatingTest {
    private static void names() {
        Probe.gives1("NIL", "NIL");
        Probe.gives1("T", "T");
        Probe.gives1("CAR", "fault 1");
        Probe.wide().gives("(DEFINE X 5) X (DEFINE X Y) X (DEFINE CAR 7) CAR (CAR (QUOTE (1)))",
            "X", "5", "X", "Y", "CAR", "7", "1");
        Probe.wide().gives("(DEFINE X 5) ((LAMBDA (X) X) 6) X", "X", "6", "5");
        Probe.gives1("((LAMBDA (X X) X) 1 2)", "1");
        Probe.gives1("((LAMBDA (X) ((LAMBDA (X) X) 2)) 1)", "2");
        Probe.gives1("((LAMBDA (X) ((LAMBDA (Y) X) 2)) 1)", "1");
        // Bindings are those of the caller, not those of the place where the function stands.
        Probe.wide().gives("(DEFINE F (LAMBDA () X)) (F) ((LAMBDA (X) (F)) 3)", "F", "fault 1", "3");
        Probe.gives1("((LAMBDA (NIL T) NIL) 1 2)", "NIL");
        Probe.gives1("((LAMBDA (NIL T) T) 1 2)", "T");
    }

    private static void forms() {
        Probe.gives1("(QUOTE A)", "A");
        Probe.gives1("(QUOTE)", "fault 3");
        Probe.gives1("(QUOTE A B)", "fault 3");
        Probe.gives1("(QUOTE A . B)", "fault 3");
        Probe.gives1("(QUOTE . A)", "fault 3");
        Probe.gives1("(COND)", "fault 5");
        Probe.gives1("(COND (T 1))", "1");
        Probe.gives1("(COND (NIL 1) (5 2))", "2");
        Probe.gives1("(COND (NIL 1))", "fault 5");
        Probe.gives1("(COND T)", "fault 3");
        Probe.gives1("(COND NIL)", "fault 3");
        Probe.gives1("(COND (T))", "fault 3");
        Probe.gives1("(COND (T 1 2))", "fault 3");
        Probe.gives1("(COND (T 1 . 2))", "fault 3");
        Probe.gives1("(COND (T . 1))", "fault 3");
        Probe.gives1("(COND . T)", "fault 3");
        Probe.gives1("(COND (NIL 1) . T)", "fault 3");
        Probe.gives1("(COND (NIL 1) (T))", "fault 3");
        // What is behind a clause is looked at when it is come to.
        Probe.gives1("(COND (T 1) 5)", "1");
        Probe.gives1("(COND (T 1) . 5)", "1");
        Probe.gives1("(DEFINE X)", "fault 3");
        Probe.gives1("(DEFINE X 1 2)", "fault 3");
        Probe.gives1("(DEFINE X 1 . 2)", "fault 3");
        Probe.gives1("(DEFINE . X)", "fault 3");
        Probe.gives1("(DEFINE NIL 1)", "fault 3");
        Probe.gives1("(DEFINE T 1)", "fault 3");
        Probe.gives1("(DEFINE 5 1)", "fault 3");
        Probe.gives1("(DEFINE (X) 1)", "fault 3");
        Probe.wide().gives("(CAR (DEFINE X 1)) X", "fault 2", "1");
        Probe.wide().gives("(DEFINE QUOTE 1) (QUOTE A)", "QUOTE", "A");
    }

    private static void calls() {
        Probe.gives1("(1 X)", "fault 1");
        Probe.gives1("(1 2)", "fault 4");
        Probe.gives1("(NIL)", "fault 4");
        Probe.gives1("(T 1)", "fault 4");
        Probe.gives1("(F)", "fault 1");
        Probe.wide().gives("(DEFINE F 5) (F)", "F", "fault 4");
        Probe.wide().gives("(DEFINE F G) (DEFINE G CAR) (F (QUOTE (A)))", "F", "G", "A");
        Probe.gives1("(CAR . 1)", "fault 3");
        Probe.gives1("(CAR (QUOTE (A)) . 1)", "fault 3");
        Probe.gives1("(CAR X . 1)", "fault 1");
        Probe.gives1("((LAMBDA (A B C D E F G H) H) 1 2 3 4 5 6 7 8)", "8");
        Probe.gives1("((LAMBDA (A B C D E F G H I) I) 1 2 3 4 5 6 7 8 9)", "fault 3");
        Probe.gives1("(X 1 2 3 4 5 6 7 8 9)", "fault 3");
        Probe.gives1("(X 1 2 3 4 5 6 7 Y 9)", "fault 1");
        Probe.gives1("(X 1 2 3 4 5 6 7 8 . 9)", "fault 3");
        Probe.gives1("(X 1 2 3 4 5 6 7 8)", "fault 1");
        Probe.gives1("((CAR (QUOTE (CDR))) (QUOTE (1 . 2)))", "2");
        Probe.gives1("(LAMBDA (X) X)", "fault 1");
        Probe.gives1("(LABEL X X)", "fault 1");
        Probe.gives1("((QUOTE QUOTE) 1)", "fault 1");
        Probe.wide().gives("(DEFINE COND CAR) ((QUOTE COND) (QUOTE (1 2)))", "COND", "1");
        Probe.gives1("((QUOTE 1))", "fault 4");
        Probe.gives1("((COND (T (QUOTE (LAMBDA (X) (PLUS X X))))) 4)", "8");
    }

    private static void lambdas() {
        Probe.gives1("((LAMBDA () 1))", "1");
        Probe.gives1("((LAMBDA NIL 1))", "1");
        Probe.gives1("((LAMBDA (X) 1))", "fault 3");
        Probe.gives1("((LAMBDA () 1) 2)", "fault 3");
        Probe.gives1("((LAMBDA X X) 1)", "fault 3");
        Probe.gives1("((LAMBDA (X . Y) X) 1)", "fault 3");
        Probe.gives1("((LAMBDA (1) 1) 1)", "fault 3");
        Probe.gives1("((LAMBDA ((X)) 1) 1)", "fault 3");
        Probe.gives1("((LAMBDA (X)) 1)", "fault 3");
        Probe.gives1("((LAMBDA (X) X X) 1)", "fault 3");
        Probe.gives1("((LAMBDA (X) . X) 1)", "fault 3");
        Probe.gives1("((LAMBDA . X) 1)", "fault 3");
        Probe.gives1("((LAMBDA (CAR) (CAR CAR)) (QUOTE (1)))", "1");
        Probe.gives1("((LAMBDA (F) (F 3)) (QUOTE (LAMBDA (X) (TIMES X X))))", "9");
        Probe.gives1("((LABEL F CAR) (QUOTE (1)))", "1");
        Probe.gives1("((LABEL F F))", "fault 8");
        Probe.gives1("((LABEL 5 CAR) (QUOTE (1)))", "fault 3");
        Probe.gives1("((LABEL (F) CAR) (QUOTE (1)))", "fault 3");
        Probe.gives1("((LABEL F) 1)", "fault 3");
        Probe.gives1("((LABEL F CAR CDR) 1)", "fault 3");
        Probe.gives1("((LABEL F . CAR) 1)", "fault 3");
        Probe.gives1("((LABEL NIL CAR) (QUOTE (1)))", "1");
        Probe.gives1("((LABEL F (LAMBDA (N) (COND ((LESSP N 2) 1) (T (TIMES N (F (DIFFERENCE N 1))))))) 10)",
            "3628800");
        // LABEL keeps its number of values.
        Probe.gives1("((LABEL F (LAMBDA (X) F)) 1)", "(LAMBDA (X) F)");
    }

    private static void builtIns() {
        Probe.gives1("(CAR (QUOTE (A . B)))", "A");
        Probe.gives1("(CDR (QUOTE (A . B)))", "B");
        Probe.gives1("(CAR NIL)", "fault 2");
        Probe.gives1("(CDR NIL)", "fault 2");
        Probe.gives1("(CDR 1)", "fault 2");
        Probe.gives1("(CONS 1 2)", "(1 . 2)");
        Probe.gives1("(CONS 1 NIL)", "(1)");
        Probe.gives1("(ATOM 1)", "T");
        Probe.gives1("(ATOM NIL)", "T");
        Probe.gives1("(ATOM (QUOTE (1)))", "NIL");
        Probe.gives1("(EQ 1 1)", "T");
        Probe.gives1("(EQ 1 2)", "NIL");
        Probe.gives1("(EQ (QUOTE A) (QUOTE A))", "T");
        Probe.gives1("(EQ (QUOTE A) 1)", "NIL");
        Probe.gives1("(EQ NIL ())", "T");
        Probe.gives1("(EQ 1 (QUOTE (1)))", "fault 2");
        Probe.gives1("(EQ (QUOTE (1)) 1)", "fault 2");
        Probe.gives1("(NULL NIL)", "T");
        Probe.gives1("(NULL 0)", "NIL");
        Probe.gives1("(NULL (QUOTE (1)))", "NIL");
        Probe.gives1("(NUMBERP 0)", "T");
        Probe.gives1("(NUMBERP T)", "NIL");
        Probe.gives1("(NUMBERP (QUOTE (1)))", "NIL");
        Probe.gives1("(PLUS 1 -2)", "-1");
        Probe.gives1("(DIFFERENCE 1 -2)", "3");
        Probe.gives1("(TIMES -3 4)", "-12");
        Probe.gives1("(TIMES 65536 65536)", "0");
        Probe.gives1("(TIMES 65536 32768)", "-2147483648");
        Probe.gives1("(DIFFERENCE (TIMES 65536 32768) 1)", "2147483647");
        Probe.gives1("(PLUS (DIFFERENCE (TIMES 65536 32768) 1) 1)", "-2147483648");
        Probe.gives1("(LESSP 1 2)", "T");
        Probe.gives1("(LESSP 2 2)", "NIL");
        Probe.gives1("(LESSP (TIMES 65536 32768) 1)", "T");
        for (String name : new String[] {"PLUS", "DIFFERENCE", "TIMES", "LESSP"}) {
            Probe.gives1("(" + name + " 1 T)", "fault 2");
            Probe.gives1("(" + name + " NIL 1)", "fault 2");
            Probe.gives1("(" + name + " (QUOTE (1)) 1)", "fault 2");
        }
    }

    private static void numbersOfValues() {
        for (String name : new String[] {"CAR", "CDR", "ATOM", "NULL", "NUMBERP"}) {
            Probe.gives1("(" + name + ")", "fault 3");
            Probe.gives1("(" + name + " 1 2)", "fault 3");
        }
        for (String name : new String[] {"CONS", "EQ", "PLUS", "DIFFERENCE", "TIMES", "LESSP"}) {
            Probe.gives1("(" + name + ")", "fault 3");
            Probe.gives1("(" + name + " (QUOTE (1)))", "fault 3");
            Probe.gives1("(" + name + " T T T)", "fault 3");
        }
    }

    public static void main(String[] args) {
        names();
        forms();
        calls();
        lambdas();
        builtIns();
        numbersOfValues();
        Probe.end();
    }
}
