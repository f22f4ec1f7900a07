/** Promise 3: what clear takes away, and what it leaves. */
public final class ClearTest {
    private static void empty() {
        Probe.sentence("There is no text");
        Probe fresh = Probe.wide();
        fresh.clear();
        Probe.due("of no text", "none", fresh.next());
        fresh.stands(0);
        Probe unread = Probe.wide();
        unread.write("5 6 )");
        unread.clear();
        Probe.due("of an unread text", "none", unread.next());
        unread.stands(0);
        Probe half = Probe.wide();
        half.gives("5 6", "5");
        half.clear();
        half.clear();
        Probe.due("of a text half read, twice", "none", half.next());
        half.stands(0);
    }

    private static void beginning() {
        Probe.sentence("reading stands at its beginning");
        Probe probe = Probe.wide();
        probe.gives("5 6", "5").stands(1);
        probe.clear();
        probe.stands(0).gives("789", "789", "none").stands(3);
        probe.clear();
        // A shorter text than the one before: nothing of that is left behind it.
        probe.gives("1", "1", "none").stands(1);
        probe.clear();
        probe.gives("A(", "fault 1", "place 2");
        probe.clear();
        probe.stands(0).tells(10).gives("9", "9").stands(1);
    }

    private static void fullAgain() {
        Probe.sentence("There is no text (2,000 characters have room again)");
        Probe probe = Probe.wide();
        for (int k = 0; k < 250; k++) {
            probe.write(0x2020202020202020L);
        }
        Probe.due("full", false, probe.write(0x20L));
        probe.clear();
        for (int k = 0; k < 249; k++) {
            Probe.due("room again", true, probe.write(0x2020202020202020L));
        }
        Probe.due("the last eight", true, probe.write(0x2020202020202038L));
        Probe.due("full again", false, probe.write(0x20L));
        Probe.due("next", "8", probe.next());
        probe.stands(2000);
    }

    private static void nothingElse() {
        Probe.sentence("clear (globals, names, what is printed, fault and counts stay)");
        Probe probe = Probe.wide();
        probe.gives("(DEFINE X (1 2)) (ATOM 7) 8", "X", "T");
        probe.clear();
        probe.prints("T").tells(0).counts(0, 3).counts(1, 2).counts(2, 19).counts(3, 1);
        probe.gives("X (CAR X Y)", "(1 2)", "fault 1");
        probe.clear();
        probe.prints("").tells(1).counts(0, 3).counts(1, 2).counts(2, 20).counts(3, 1);
    }

    public static void main(String[] args) {
        empty();
        beginning();
        fullAgain();
        nothingElse();
        Probe.end();
    }
}
