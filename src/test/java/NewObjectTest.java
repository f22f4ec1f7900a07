/** Promise 1: limits as given or as usual; no text, no globals. */
public final class NewObjectTest {
    /** A list that is made of as many pairs as are asked for, quoted. */
    private static String quoted(int pairs) {
        StringBuilder text = new StringBuilder("(QUOTE(");
        for (int k = 2; k < pairs; k++) {
            text.append(k % 2 == 0 ? "1" : "A ");
        }
        return text.append("))").toString();
    }

    private static void cells(int given, int inForce) {
        Probe probe = new Probe(given, 100, 5000);
        probe.write(quoted(inForce));
        Probe.due("cells " + given + ", all", false, probe.next().startsWith("fault"));
        probe.house.clear();
        probe.write(quoted(inForce + 1));
        Probe.due("cells " + given + ", one more", "fault 6", probe.next());
    }

    private static String nested(int depth) {
        return "(ATOM ".repeat(depth) + "1" + ")".repeat(depth);
    }

    /** Globals that apply one another make waiting deep without many open parentheses. */
    private static void tasks(int given, int inForce) {
        Probe probe = new Probe(1000, given, 20000);
        probe.gives("(DEFINE F (LAMBDA (N) (COND ((LESSP N 1) 0) (T (PLUS 1 (F (DIFFERENCE N 1)))))))", "F");
        // The innermost (LESSP N 1) waits behind the COND, and each level adds one PLUS.
        probe.gives("(F " + (inForce - 2) + ")", "" + (inForce - 2)).counts(3, inForce);
        probe.gives("(F " + (inForce - 1) + ")", "fault 7").counts(3, inForce);
    }

    private static void steps(int given, int inForce) {
        Probe probe = new Probe(300, 100, given);
        probe.gives("((LABEL F (LAMBDA () (F))))", "fault 8").counts(0, inForce);
    }

    public static void main(String[] args) {
        Probe fresh = new Probe(100, 20, 500);
        Probe.due("fault()", 0, fresh.house.fault());
        Probe.due("place()", 0, fresh.house.place());
        Probe.due("size()", 0, fresh.house.size());
        Probe.due("out(0)", -1, fresh.house.out(0));
        fresh.counts(0, 0).counts(1, 0).counts(2, 18).counts(3, 0);
        Probe.due("next()", "none", fresh.next());

        cells(16, 16);
        cells(17, 17);
        cells(15, 300);
        cells(-1, 300);
        cells(Integer.MIN_VALUE, 300);
        cells(1000, 1000);
        cells(1001, 300);
        tasks(4, 4);
        tasks(5, 5);
        tasks(3, 100);
        tasks(0, 100);
        tasks(200, 200);
        tasks(201, 100);
        tasks(Integer.MAX_VALUE, 100);
        steps(10, 10);
        steps(9, 5000);
        steps(0, 5000);
        steps(20000, 20000);
        steps(20001, 5000);
        steps(Integer.MIN_VALUE, 5000);
        new Probe(16, 4, 10).gives(nested(4), "T").gives(nested(5), "fault 7");
        Probe.end();
    }
}
