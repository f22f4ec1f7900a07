/** Promises 4, 5 and 6: what next answers and throws, which fault is told, and where reading stands. */
public final class NextTest {
    private static void answers() {
        Probe.sentence("1 when its value is printed, 0 when there is none more (blanks are passed)");
        Probe probe = Probe.wide();
        Probe.due("no text", "0", probe.call());
        probe.write("5 NIL\n()  ");
        Probe.due("5", "1", probe.call());
        Probe.due("NIL", "1", probe.call());
        Probe.due("()", "1", probe.call());
        Probe.due("none more", "0", probe.call());
        Probe.due("none more again", "0", probe.call());
        probe.stands(10);
        Probe blank = Probe.wide();
        blank.write(" ");
        Probe.due("one blank", "0", blank.call());
        blank.stands(1);
        Probe newline = Probe.wide();
        newline.write("\n");
        Probe.due("one blank", "0", newline.call());
        newline.stands(1);
    }

    private static void evaluatedWithNil() {
        Probe.sentence("and evaluates it with NIL");
        Probe.fresh("((LAMBDA (X) X) 1) X", "1", "fault 1");
        Probe.fresh("((LAMBDA (X) (CAR X)) 1) X", "fault 2", "fault 1");
    }

    /** A text with each of the faults 1 to 9, for a house of 16 cells, 4 tasks and 10 steps that has 149 names. */
    private static String faulty(int fault) {
        switch (fault) {
            case 1:
                return "A";
            case 2:
                return "(CAR 1)";
            case 3:
                return "(QUOTE)";
            case 4:
                return "(5)";
            case 5:
                return "(COND)";
            case 6:
                return Texts.ofPairs(17);
            case 7:
                return Texts.atoms(5, "1");
            case 8:
                return "((LABEL A (LAMBDA () (A))))";
            default:
                return "(Y Z)";
        }
    }

    private static Probe small() {
        StringBuilder names = new StringBuilder("(QUOTE A");
        for (int k = 19; k < 149; k++) {
            names.append(" X").append(k);
        }
        Probe probe = new Probe(16, 4, 10);
        probe.gives(names.append(")").toString(), "fault 6").counts(2, 149);
        probe.clear();
        return probe;
    }

    private static void faults() {
        Probe.sentence("IllegalStateException: a fault 1 to 9 (reading stands behind the expression)");
        for (int fault = 1; fault <= 9; fault++) {
            String text = faulty(fault);
            Probe probe = small();
            probe.gives(" " + text + "  7 ", "fault " + fault).tells(fault).stands(1 + text.length()).prints("");
            Probe.due("goes on", "7", probe.next());
            probe.tells(0).stands(text.length() + 4);
            Probe again = small();
            again.write(text);
            Probe.due("throws", "IllegalStateException", again.call());
            again.tells(fault).stands(text.length());
            Probe.due("none more", "none", again.next());
            again.tells(0);
        }
    }

    private static void reading() {
        Probe.sentence("IllegalArgumentException: a FAULT of reading (reading stands behind the text then)");
        for (String text : new String[] {")", "(", "-", "?", "(A . )", "ABCDEFGHIJKLM", "1234567890", ".", "(.A)"}) {
            Probe probe = Probe.wide();
            probe.write(text + " 5 6 ");
            Probe.due("throws for " + text, "IllegalArgumentException", probe.call());
            probe.tells(10).prints("").counts(0, 0).counts(3, 0);
            Probe.due("the rest is passed", "none", probe.next());
            probe.tells(0).stands(text.length() + 5).gives("7", "7").stands(text.length() + 6);
        }
    }

    private static void fault() {
        Probe.sentence("The fault of the latest next(): 0 none, 10 one of reading");
        Probe probe = Probe.wide();
        probe.tells(0).write("X 5 (CAR 1) Y Z (");
        for (int fault : new int[] {1, 0, 2, 1, 1, 10, 0, 0}) {
            probe.call();
            probe.tells(fault).tells(fault);
        }
        // Other calls leave it.
        probe.gives(" (CAR 1)", "fault 2");
        probe.write(7L);
        probe.write(0x20L);
        probe.place();
        probe.size();
        probe.out(0);
        probe.count(1);
        probe.tells(2);
        probe.clear();
        probe.tells(2).gives("(", "place 1");
        probe.clear();
        probe.tells(10);
        probe.call();
        probe.tells(0);
    }

    private static void place() {
        Probe.sentence("Where reading stands; behind a FAULT of reading its PLACE");
        Probe probe = Probe.wide();
        probe.stands(0).write("  (CAR 1)  X(A)7 8 (A . ) 5 6");
        probe.stands(0);
        for (int place : new int[] {9, 12, 15, 16, 18}) {
            probe.call();
            probe.stands(place);
        }
        Probe.due("next", "IllegalArgumentException", probe.call());
        probe.stands(24).stands(24);
        Probe.due("write", true, probe.write(0x20L));
        probe.stands(24);
        Probe.due("a refused write", false, probe.write(7L));
        probe.stands(24);
        Probe.due("the rest is passed", "none", probe.next());
        probe.stands(30).gives("7", "7").stands(31).gives(" \n  ", "none").stands(35);
        probe.gives("?", "place 35").gives("?", "place 36").gives("(", "place 38");
        probe.clear();
        probe.stands(0);
    }

    /** The last of the calls that the document promises for answers as the first. */
    private static void manyCalls() {
        Probe.sentence("An object is used for at most 512 calls after it has been made");
        Probe probe = new Probe(16, 4, 10);
        probe.gives("(DEFINE X (1 . 2))", "X");
        while (probe.calls() < Probe.CALLS - 11) {
            probe.clear();
            probe.gives("(CONS 3 X)", "(3 1 . 2)");
        }
        while (probe.calls() < Probe.CALLS - 2) {
            probe.counts(1, 1);
        }
        probe.tells(0).counts(2, 19);
        Probe.due("calls", Probe.CALLS, probe.calls());
    }

    public static void main(String[] args) {
        answers();
        evaluatedWithNil();
        faults();
        reading();
        fault();
        place();
        manyCalls();
        Probe.end();
    }
}
