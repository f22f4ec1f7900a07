/** Promise 1: limits as given or as usual; no text, no globals. */
public final class NewObjectTest {
    private static void cells(int given, int inForce) {
        Probe probe = new Probe(given, 100, 5000);
        probe.write(Texts.ofPairs(inForce));
        Probe.due("cells " + given + ", all of them", "1", probe.nextKind());
        probe.clear();
        probe.write(Texts.ofPairs(inForce + 1));
        Probe.due("cells " + given + ", one more", "fault 6", probe.nextKind());
    }

    private static void cells() {
        Probe.sentence("CELLS (16 .. 1000; another number means 300)");
        cells(16, 16);
        cells(17, 17);
        cells(299, 299);
        cells(300, 300);
        cells(301, 301);
        cells(999, 999);
        cells(1000, 1000);
        for (int other : new int[] {15, 1, 0, -1, -16, Integer.MIN_VALUE, 1001, 65552, Integer.MAX_VALUE}) {
            cells(other, 300);
        }
    }

    /** The innermost (LESSP N 1) waits behind its COND, and each level around it adds one PLUS. */
    private static void tasks(int given, int inForce) {
        Probe probe = new Probe(1000, given, 20000);
        probe.gives("(DEFINE F (LAMBDA (N) (COND ((LESSP N 1) 0) (T (PLUS 1 (F (DIFFERENCE N 1)))))))", "F");
        probe.gives("(F " + (inForce - 3) + ")", "" + (inForce - 3)).counts(3, inForce - 1);
        probe.gives("(F " + (inForce - 2) + ")", "" + (inForce - 2)).counts(3, inForce);
        probe.gives("(F " + (inForce - 1) + ")", "fault 7").counts(3, inForce);
    }

    private static void tasks() {
        Probe.sentence("TASKS (4 .. 200; 100)");
        tasks(4, 4);
        tasks(5, 5);
        tasks(99, 99);
        tasks(100, 100);
        tasks(101, 101);
        tasks(199, 199);
        tasks(200, 200);
        for (int other : new int[] {3, 1, 0, -1, -4, Integer.MIN_VALUE, 201, 260, Integer.MAX_VALUE}) {
            tasks(other, 100);
        }
    }

    private static void steps(int given, int inForce) {
        Probe probe = new Probe(300, 100, given);
        probe.write(Texts.stepFunctions());
        for (int k = 0; k < 12; k++) {
            Probe.due("DEFINE", "1", probe.nextKind());
        }
        if (inForce > 10) {
            probe.gives(Texts.taking(inForce - 1), "1").counts(0, inForce - 1);
        }
        probe.gives(Texts.taking(inForce), "1").counts(0, inForce);
        probe.gives(Texts.taking(inForce + 1), "fault 8").counts(0, inForce);
        probe.gives("((LABEL F (LAMBDA () (F))))", "fault 8").counts(0, inForce);
    }

    private static void steps() {
        Probe.sentence("STEPS (10 .. 20000; 5000)");
        steps(10, 10);
        steps(11, 11);
        steps(4999, 4999);
        steps(5000, 5000);
        steps(5001, 5001);
        steps(19999, 19999);
        steps(20000, 20000);
        for (int other : new int[] {9, 1, 0, -1, -10, Integer.MIN_VALUE, 20001, 65546, Integer.MAX_VALUE}) {
            steps(other, 5000);
        }
    }

    /** One limit that is another number leaves the two others as they are given. */
    private static void apart() {
        Probe.sentence("CELLS .., TASKS .., STEPS .. (each for itself)");
        Probe cells = new Probe(15, 4, 10);
        cells.gives(Texts.atoms(4, "1"), "T").gives(Texts.atoms(5, "1"), "fault 7");
        cells.gives("((LABEL F (LAMBDA () (F))))", "fault 8").counts(0, 10);
        Probe tasks = new Probe(16, 3, 10);
        tasks.gives("((LABEL F (LAMBDA () (F))))", "fault 8").counts(0, 10);
        tasks.gives(Texts.atoms(5, "1"), "fault 8").gives(Texts.ofPairs(17), "fault 6");
        Probe steps = new Probe(16, 4, 9);
        steps.gives(Texts.atoms(5, "1"), "fault 7").gives(Texts.ofPairs(17), "fault 6");
        steps.gives("((LABEL F (LAMBDA () (F))))", "fault 8").counts(0, 5000);
    }

    private static void empty() {
        Probe.sentence("No text, no globals");
        Probe fresh = new Probe(100, 20, 500);
        fresh.tells(0).stands(0).prints("").counts(0, 0).counts(1, 0).counts(2, 18).counts(3, 0);
        Probe.due("out(0)", -1, fresh.out(0));
        Probe.due("next()", "none", fresh.next());
        fresh.tells(0).stands(0).prints("").counts(0, 0).counts(1, 0).counts(2, 18).counts(3, 0);
        for (String name : ("QUOTE COND DEFINE LAMBDA LABEL CAR CDR CONS ATOM EQ NULL NUMBERP PLUS DIFFERENCE TIMES"
            + " LESSP A Z9").split(" ")) {
            Probe.fresh(name, "fault 1");
        }
        // What one object has been told is nothing to another one.
        Probe.wide().gives("(DEFINE A 1) 5", "A");
        Probe.wide().gives("A", "fault 1", "none");
    }

    public static void main(String[] args) {
        cells();
        tasks();
        steps();
        apart();
        empty();
        Probe.end();
    }
}
