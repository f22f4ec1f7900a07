/** Promises 2 and 3: what write takes and refuses, and what clear takes away. */
public final class WriteClearTest {
    private static void fills() {
        Probe probe = Probe.wide();
        for (int k = 0; k < 249; k++) {
            probe.write("        ");
        }
        probe.write("(1 . 2)");
        Probe.due("two would be too many", false, probe.house.write(0x2020L));
        Probe.due("nothing is never too much", true, probe.house.write(0L));
        Probe.due("the last one", true, probe.house.write(0x4100000000000000L));
        Probe.due("one more", false, probe.house.write(0x41L));
        Probe.due("nothing still", true, probe.house.write(0L));
        Probe.due("a wrong one", false, probe.house.write(7L));
        Probe.due("the list", "fault 3", probe.next());
        Probe.due("place", 1999, probe.house.place());
        Probe.due("the last name", "fault 1", probe.next());
        Probe.due("place", 2000, probe.house.place());
        Probe.due("the end", "none", probe.next());
        probe.house.clear();
        Probe.due("behind clear", true, probe.house.write(0x2020202020202020L));
    }

    private static void characters() {
        for (int code = 1; code < 256; code++) {
            Probe probe = Probe.wide();
            boolean taken = code == 10 || code >= 32 && code <= 126;
            Probe.due("character " + code, taken, probe.house.write((long) code));
            Probe.due("highest " + code, taken, probe.house.write((long) code << 56));
            Probe.due("highest with 1 " + code, taken, probe.house.write((long) code << 56 | 0x31));
        }
    }

    private static void order() {
        Probe probe = Probe.wide();
        probe.house.write(0x2851554F54452000L);
        probe.house.write(0x0000414200430029L);
        Probe.due("the highest first, zeros left out", "ABC", probe.next());
        Probe.due("place", 11, probe.house.place());
    }

    private static void refusals() {
        Probe probe = Probe.wide();
        Probe.due("a wrong last one", false, probe.house.write(0x3132333435363709L));
        Probe.due("nothing was appended", "none", probe.next());
        Probe.due("place", 0, probe.house.place());
        Probe.due("a wrong first one", false, probe.house.write(0x7F32333435363738L));
        Probe.due("negative", false, probe.house.write(-1L));
        Probe.due("nothing was appended", "none", probe.next());
        probe.gives("5 6", "5");
        Probe.due("refused amid a text", false, probe.house.write(0x3000000000000080L));
        Probe.due("the rest", "6", probe.next());
    }

    private static void growing() {
        Probe probe = Probe.wide();
        probe.gives("12", "12", "none").gives("3", "3").gives(" (CAR", "place 8", "none").gives(" 4", "4");
        Probe.due("place", 10, probe.house.place());
    }

    private static void clearing() {
        Probe probe = Probe.wide();
        probe.gives("(DEFINE X (1 2)) 7 8", "X", "7");
        probe.house.clear();
        Probe.due("place", 0, probe.house.place());
        Probe.due("the printed value stays", "7", probe.printed());
        probe.counts(0, 1).counts(1, 2).counts(2, 19);
        Probe.due("no text", "none", probe.next());
        probe.gives("X", "(1 2)");
        probe.house.clear();
        probe.gives("A(", "fault 1", "place 2");
        probe.house.clear();
        Probe.due("reading stands at the beginning", 0, probe.house.place());
        Probe.due("the latest next() was at fault", 10, probe.house.fault());
        probe.gives("9", "9");
        Probe.due("place", 1, probe.house.place());
    }

    public static void main(String[] args) {
        fills();
        characters();
        order();
        refusals();
        growing();
        clearing();
        Probe.end();
    }
}
