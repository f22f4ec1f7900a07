/** Promises 4 and 9: faults 6 to 9 exactly when they are due, and what is counted. */
public final class LimitsTest {
    private static final String APPEND =
        "(DEFINE APP (LAMBDA (X Y) (COND ((NULL X) Y) (T (CONS (CAR X) (APP (CDR X) Y))))))";

    private static void steps() {
        Probe probe = Probe.wide();
        probe.gives("5", "5").counts(0, 1).counts(3, 0);
        probe.gives("(QUOTE A)", "A").counts(0, 1).counts(3, 0);
        probe.gives("(CONS 1 2)", "(1 . 2)").counts(0, 4).counts(3, 1);
        probe.gives("(COND (NIL 1) (T 2))", "2").counts(0, 5).counts(3, 1);
        probe.gives("(COND (NIL 1))", "fault 5").counts(0, 3).counts(3, 1);
        probe.gives("(COND)", "fault 5").counts(0, 1).counts(3, 0);
        probe.gives("(DEFINE X 1)", "X").counts(0, 1);
        probe.gives("((LAMBDA (X) X) 1)", "1").counts(0, 4).counts(3, 1);
        probe.gives("((LABEL F (LAMBDA () 1)))", "1").counts(0, 4).counts(3, 0);
        probe.gives("((QUOTE CAR) (QUOTE (1)))", "1").counts(0, 5).counts(3, 1);
        probe.gives("((CAR (QUOTE (ATOM))) 1)", "T").counts(0, 7).counts(3, 2);
        probe.gives("(F . 1)", "fault 3").counts(0, 1).counts(3, 0);
        probe.gives("(F 1 2 3 4 5 6 7 8 9)", "fault 3").counts(0, 9).counts(3, 1);
        probe.gives(")", "place " + probe.house.place()).counts(0, 0).counts(3, 0);
        probe.gives("(ATOM 1)", "T").counts(0, 3);
        Probe.due("next", "none", probe.next());
        probe.counts(0, 0).counts(3, 0);
        probe.gives(APPEND + "(APP (QUOTE (1 -2)) (QUOTE (3)))", "APP", "(1 -2 3)").counts(0, 46).counts(3, 4);
    }

    private static void stepLimit() {
        new Probe(100, 4, 10).gives("(ATOM (ATOM (ATOM (ATOM 1))))", "T").counts(0, 9);
        String eleven = "(CONS (ATOM 1) (CONS 1 (ATOM 1)))";
        new Probe(100, 5, 11).gives(eleven, "(T 1 . T)").counts(0, 11);
        new Probe(100, 5, 10).gives(eleven, "fault 8").counts(0, 10);
        // The COND of no clauses is begun before it is at fault.
        String choices = "(COND (NIL 1)(NIL 1)(NIL 1)(NIL 1)(NIL 1))";
        new Probe(100, 5, 11).gives(choices, "fault 5").counts(0, 11);
        new Probe(100, 5, 10).gives(choices, "fault 8").counts(0, 10);
        // A value that waits for nothing else is begun without a step to spare.
        new Probe(100, 5, 10).gives("(F 1 2 3 4 5 6 7 8)", "fault 1").counts(0, 10);
        new Probe(100, 5, 10).gives("(F 1 2 3 4 5 6 7 (QUOTE X) 9)", "fault 3").counts(0, 9);
        // Where both are exhausted, tasks are told: thirteen steps are taken when a fifth one would wait.
        String define = "(DEFINE F (LAMBDA () 1))";
        String both = "(X (F) (F) (ATOM (ATOM (ATOM (ATOM 1)))))";
        new Probe(100, 4, 14).gives(define + both, "F", "fault 7").counts(0, 13).counts(3, 4);
        new Probe(100, 4, 13).gives(define + both, "F", "fault 7").counts(0, 13).counts(3, 4);
        new Probe(100, 5, 13).gives(define + both, "F", "fault 8").counts(0, 13);
        new Probe(100, 4, 12).gives(define + both, "F", "fault 8").counts(0, 12);
    }

    private static void tasks() {
        new Probe(100, 4, 100).gives("(ATOM (ATOM (ATOM (ATOM 1))))", "T").counts(3, 4);
        new Probe(100, 4, 100).gives("(ATOM (ATOM (ATOM (ATOM (ATOM 1)))))", "fault 7").counts(3, 4).counts(0, 5);
        String conds = "(COND ((COND ((COND ((COND (T T)) T)) T)) T))";
        new Probe(100, 4, 100).gives(conds, "T").counts(3, 4);
        new Probe(100, 4, 100).gives("(COND (" + conds + " T))", "fault 7").counts(3, 4);
        String functions = "(((((QUOTE (QUOTE (QUOTE (QUOTE ATOM)))))))1)";
        new Probe(100, 4, 100).gives(functions, "fault 3").counts(3, 4);
        new Probe(100, 4, 100).gives("((" + functions + "))", "fault 7").counts(3, 4);
        // What takes the place of something does not wait, however long it goes on.
        new Probe(100, 4, 20000).gives("((LABEL F (LAMBDA () (COND (T (F))))))", "fault 8").counts(3, 1);
        // What is behind the last value does not wait any more.
        new Probe(100, 4, 100).gives("((LAMBDA (X) (ATOM (ATOM (ATOM (ATOM X))))) 1)", "T").counts(3, 4);
        Probe twice = new Probe(100, 4, 100);
        twice.gives("(ATOM (ATOM (ATOM 1))) 1", "T").counts(3, 3);
        twice.gives("", "1").counts(3, 0);
    }

    private static void cellsOfReading() {
        Probe probe = new Probe(16, 4, 100);
        probe.gives("(QUOTE (1 2 3 4 5 6 7 8 9 10 11 12 13 14))", "(1 2 3 4 5 6 7 8 9 10 11 12 13 14)");
        probe.gives("(QUOTE (1 2 3 4 5 6 7 8 9 10 11 12 13 14 15))", "fault 6").counts(0, 0);
        probe.gives("(QUOTE (1 2 3 4 5 6 7 8 9 10 11 12 13 14 . 15))", "(1 2 3 4 5 6 7 8 9 10 11 12 13 14 . 15)");
        probe.gives("(DEFINE X (1 2 3 4))", "X").counts(1, 4);
        probe.gives("(QUOTE (1 2 3 4 5 6 7 8 9 10))", "(1 2 3 4 5 6 7 8 9 10)");
        probe.gives("(QUOTE (1 2 3 4 5 6 7 8 9 10 11))", "fault 6");
        probe.gives("(DEFINE X 1)", "X").counts(1, 0);
        probe.gives("(QUOTE (1 2 3 4 5 6 7 8 9 10 11))", "(1 2 3 4 5 6 7 8 9 10 11)");
        // What has fault 6 leaves its names; the place is behind it.
        probe.house.clear();
        probe.counts(2, 19);
        probe.gives("(A B C D E F G H I J K L M N O P Q) 5", "fault 6").counts(2, 36);
        Probe.due("place", 35, probe.house.place());
        Probe.due("next", "5", probe.next());
    }

    /** A house of sixteen cells with a global of so many pairs. */
    private static Probe holding(int pairs) {
        Probe probe = new Probe(16, 8, 100);
        return probe.gives("(DEFINE X (" + "1 ".repeat(pairs) + "))", "X").counts(1, pairs);
    }

    private static void cellsOfCons() {
        // Nothing of an expression is held but what waits: these twelve pairs are free when CONS begins.
        String chain = "(CONS 1 (CONS 2 (CONS 3 (CONS 4 5))))";
        holding(4).gives(chain, "(1 2 3 4 . 5)");
        holding(5).gives(chain, "fault 6").counts(0, 0);
        // The second CONS finds most held: 13 of the function, two of the binding, one value. The third, which
        // nothing waits for, does not hold the binding any more.
        String function = "(DEFINE F (LAMBDA (N) (CONS N (CONS N (CONS N N)))))";
        new Probe(17, 8, 100).gives(function, "F").counts(1, 13).gives("(F 1)", "(1 1 1 . 1)");
        new Probe(16, 8, 100).gives(function, "F").gives("(F 1)", "fault 6").counts(0, 13);
    }

    private static void cellsOfBinding() {
        // One name: four pairs of the function and two wanted are as many as were read.
        holding(10).gives("((LAMBDA (Y) Y) 1)", "1");
        holding(11).gives("((LAMBDA (Y) Y) 1)", "fault 6").counts(0, 0);
        // Two names: five and four are one more than were read.
        holding(7).gives("((LAMBDA (Y Z) Z) 1 2)", "2");
        holding(8).gives("((LAMBDA (Y Z) Z) 1 2)", "fault 6").counts(0, 4);
        holding(9).gives("((LAMBDA (Y Z) Z) 1 2)", "fault 6").counts(0, 0);
        // The third LABEL holds itself, the two around it and their four pairs.
        String labels = "((LABEL F (LABEL G (LABEL H ATOM))) 1)";
        holding(4).gives(labels, "T");
        holding(5).gives(labels, "fault 6").counts(0, 5);
        holding(6).gives(labels, "fault 6").counts(0, 0);
        // An applying that waits for its function does not hold it: 14 pairs are read, no more than six made.
        String maker = "(DEFINE F (LAMBDA (N) (CAR (CONS (QUOTE ATOM) (CONS N (CONS N (CONS N N)))))))";
        String made = "((F (NULL (QUOTE (1 2 3 4 5 6)))) 7)";
        new Probe(34, 8, 100).gives(maker, "F").counts(1, 20).gives(made, "T");
        new Probe(33, 8, 100).gives(maker, "F").gives(made, "fault 6").counts(0, 0);
        // It does hold its values: six, beside 23 of the function, four made, and two of the binding.
        String larger = "(DEFINE F (LAMBDA (N) (CAR (CONS (QUOTE ATOM) (CONS N (CONS N (CONS N (CONS N N))))))))";
        String kept = "((F NIL) (QUOTE (1 2 3 4 5 6)))";
        new Probe(36, 8, 100).gives(larger, "F").counts(1, 23).gives(kept, "NIL");
        new Probe(35, 8, 100).gives(larger, "F").gives(kept, "fault 6").counts(0, 24);
        // No names want no pairs.
        holding(11).gives("((LAMBDA () 1))", "1");
        // The third call of APP finds 35 pairs held, and wants four.
        String call = "(APP (QUOTE (1 -2)) (QUOTE (3)))";
        new Probe(39, 8, 100).gives(APPEND + call, "APP", "(1 -2 3)");
        new Probe(38, 8, 100).gives(APPEND + call, "APP", "fault 6").counts(0, 39);
    }

    private static void sweeping() {
        // A loop that makes pairs without end and holds few of them goes on until its steps are exhausted.
        Probe probe = new Probe(40, 10, 20000);
        probe.gives("(DEFINE F (LAMBDA () (COND ((NULL (CONS 1 2)) 1) (T (F)))))", "F");
        probe.gives("(F)", "fault 8").counts(0, 20000);
        probe.gives("(DEFINE G (LAMBDA (X) (G X)))", "G");
        probe.gives("(G 1)", "fault 6");
        for (int k = 0; k < 100; k++) {
            probe.house.clear();
            probe.gives("(CONS 1 (CONS 2 (CONS 3 4)))", "(1 2 3 . 4)");
        }
    }

    private static String distinct(int from, int to) {
        StringBuilder text = new StringBuilder();
        for (int k = from; k < to; k++) {
            text.append(" X").append(k);
        }
        return text.toString();
    }

    private static void names() {
        Probe probe = new Probe(1000, 4, 100);
        probe.gives("(QUOTE" + distinct(0, 131) + ")", "fault 3").counts(2, 149);
        probe.gives("(QUOTE (Y Z))", "fault 9").counts(2, 149).counts(0, 0);
        probe.gives("(QUOTE (Y Y X5))", "(Y Y X5)").counts(2, 150);
        probe.gives("(QUOTE Z)", "fault 9").counts(2, 150);
        probe.gives("Z 5", "fault 9", "5");
        probe.gives("(QUOTE (Y X130 X0 LESSP))", "(Y X130 X0 LESSP)");
        probe.house.clear();
        probe.gives("(Z", "place 2");
        Probe all = new Probe(1000, 4, 100);
        all.gives("(QUOTE (" + distinct(0, 132) + "))", shownNames(132)).counts(2, 150);
        Probe over = new Probe(16, 4, 100);
        over.gives("(QUOTE" + distinct(0, 133) + ")", "fault 9").counts(2, 18);
        over.gives("(QUOTE" + distinct(0, 132) + ")", "fault 6").counts(2, 150);
        Probe unread = new Probe(1000, 4, 100);
        unread.gives("(A B C", "place 6").counts(2, 18);
        unread.house.clear();
        unread.gives("(" + distinct(0, 300) + " ?", "place " + (2 + distinct(0, 300).length())).counts(2, 18);
        unread.house.clear();
        unread.gives("(QUOTE (A B A B CAR))", "(A B A B CAR)").counts(2, 20);
    }

    private static String shownNames(int length) {
        String whole = "(" + distinct(0, length).trim() + ")";
        return whole.substring(0, Math.min(400, whole.length()));
    }

    private static void globals() {
        Probe probe = Probe.wide();
        probe.gives(APPEND, "APP").counts(1, 24);
        probe.gives("(DEFINE X (1 (2 3) . 4))", "X").counts(1, 28);
        probe.gives("(DEFINE X NIL)", "X").counts(1, 24);
        probe.gives("((LAMBDA (X) (DEFINE Y X)) (QUOTE (1 2)))", "Y").counts(1, 24);
        // Two globals that share their pairs: one expression, defined twice.
        probe.gives("(DEFINE Z (CAR (CONS (DEFINE U (1 2 3)) 4)))", "Z").counts(1, 35);
        probe.gives("((LAMBDA () (CAR (CONS (DEFINE Z 1) 2))))", "Z").counts(1, 24);
        Probe.due("count of another", -1, probe.house.count(4));
        Probe.due("count of another", -1, probe.house.count(-1));
        Probe.due("count of another", -1, probe.house.count(Integer.MIN_VALUE));
    }

    /** A global inside another's list is counted once: the inner DEFINE keeps a part of the outer's value. */
    private static void sharedGlobals() {
        Probe probe = Probe.wide();
        probe.gives("(DEFINE F (LAMBDA () (DEFINE G (1 2 3))))", "F").counts(1, 9);
        probe.gives("(F)", "G").counts(1, 9);
        probe.gives("(DEFINE F 1)", "F").counts(1, 3);
    }

    public static void main(String[] args) {
        steps();
        stepLimit();
        tasks();
        cellsOfReading();
        cellsOfCons();
        cellsOfBinding();
        sweeping();
        names();
        globals();
        sharedGlobals();
        Probe.end();
    }
}
