/** Promise 2: what write takes and refuses. */
public final class WriteTest {
    private static final long ONES = 0x3131313131313131L;

    private static boolean isCharacter(int code) {
        return code == 10 || code >= 32 && code <= 126;
    }

    /** Every byte, alone at each of the eight places: what is taken is one character, what is refused is none. */
    private static void characters() {
        Probe.sentence("each 32 .. 126 or 10; false, refused, when another one is no character");
        for (int code = 1; code < 256; code++) {
            for (int shift = 0; shift < 64; shift += 8) {
                Probe probe = Probe.wide();
                String where = "character " + code + " at " + shift;
                Probe.due(where, isCharacter(code), probe.write((long) code << shift));
                probe.write(0x20L);
                probe.call();
                boolean blank = code == 10 || code == 32 || !isCharacter(code);
                Probe.due(where + " is read", blank || startsExpression(code) ? 0 : 10, readFault(probe));
            }
        }
    }

    private static int readFault(Probe probe) {
        return probe.fault() == 10 ? 10 : 0;
    }

    private static boolean startsExpression(int code) {
        return code >= 'A' && code <= 'Z' || code >= '0' && code <= '9';
    }

    /** A byte that is no character amid seven that are: nothing of the eight is appended. */
    private static void refusedWhole() {
        Probe.sentence("false, refused, when another one is no character");
        for (int code : new int[] {1, 9, 11, 13, 31, 127, 128, 160, 255}) {
            for (int shift = 0; shift < 64; shift += 8) {
                Probe probe = Probe.wide();
                probe.write("T");
                long eight = ONES & ~(255L << shift) | (long) code << shift;
                Probe.due("code " + code + " at " + shift, false, probe.write(eight));
                probe.gives(" 7", "T", "7", "none").stands(3);
            }
        }
        Probe.due("all bits", false, Probe.wide().write(-1L));
        Probe.due("the least long", false, Probe.wide().write(Long.MIN_VALUE));
        Probe.due("the greatest long", false, Probe.wide().write(Long.MAX_VALUE));
    }

    private static void order() {
        Probe.sentence("Appends the eight bytes of eight to the text, the highest first");
        Probe probe = Probe.wide();
        Probe.due("(QUOTE A", true, probe.write(0x2851554F54452041L));
        Probe.due("BCDEFGH)", true, probe.write(0x4243444546474829L));
        Probe.due("next", "ABCDEFGH", probe.next());
        probe.stands(16);
    }

    private static void zeros() {
        Probe.sentence("those that are 0 being left out");
        Probe nothing = Probe.wide();
        Probe.due("write(0)", true, nothing.write(0L));
        Probe.due("next", "none", nothing.next());
        nothing.stands(0);
        for (int shift = 0; shift < 64; shift += 8) {
            Probe probe = Probe.wide();
            Probe.due("a zero at " + shift, true, probe.write(ONES & ~(255L << shift)));
            Probe.due("seven are left", "1111111", probe.next());
            probe.stands(7);
        }
        Probe among = Probe.wide();
        Probe.due("zeros between", true, among.write(0x0031003200330034L));
        Probe.due("next", "1234", among.next());
    }

    private static Probe blanks(int length) {
        Probe probe = Probe.wide();
        for (int left = length; left > 0; left -= 8) {
            long eight = 0;
            for (int k = 0; k < 8 && k < left; k++) {
                eight = eight << 8 | ' ';
            }
            Probe.due("blanks", true, probe.write(eight));
        }
        return probe;
    }

    private static void endsAt(Probe probe, int length) {
        Probe.due("next", "none", probe.next());
        probe.stands(length);
    }

    private static void full() {
        Probe.sentence("false, refused, when .. there would be more than 2,000");
        Probe exact = blanks(1992);
        Probe.due("1992 and 8", true, exact.write(0x2020202020202020L));
        endsAt(exact, 2000);
        Probe over = blanks(1993);
        Probe.due("1993 and 8", false, over.write(0x2020202020202020L));
        endsAt(over, 1993);
        Probe.due("1993 and 7", true, over.write(0x2020200020202020L));
        endsAt(over, 2000);
        Probe near = blanks(1999);
        Probe.due("1999 and 2", false, near.write(0x2020L));
        Probe.due("1999 and 0", true, near.write(0L));
        endsAt(near, 1999);
        Probe.due("1999 and 1", true, near.write(0x3500000000000000L));
        Probe.due("2000 and 1", false, near.write(0x35L));
        Probe.due("2000 and 0", true, near.write(0L));
        Probe.due("2000 and no character", false, near.write(7L));
        Probe.due("the last character", "5", near.next());
        endsAt(near, 2000);
        Probe.due("still full when all is read", false, near.write(0x20L));
    }

    /** Neither a refused write nor one that is taken touches anything but the text. */
    private static void nothingElse() {
        Probe.sentence("Appends .. to the text");
        Probe probe = Probe.wide();
        probe.gives("(ATOM 1) (CAR 1) )", "T");
        Probe.due("refused", false, probe.write(7L));
        Probe.due("taken", true, probe.write(0x20L));
        probe.prints("T").tells(0).stands(8).counts(0, 3).counts(2, 18).counts(3, 1);
        Probe.due("next", "fault 2", probe.next());
        Probe.due("taken", true, probe.write(0x20L));
        probe.prints("").tells(2).stands(16).counts(0, 3);
    }

    private static void growing() {
        Probe.sentence("Appends (a text that was read to its end goes on)");
        Probe probe = Probe.wide();
        probe.gives("12", "12", "none").gives("3", "3").gives(" (CAR", "place 8", "none").gives(" 4", "4").stands(10);
    }

    public static void main(String[] args) {
        characters();
        refusedWhole();
        order();
        zeros();
        full();
        nothingElse();
        growing();
        Probe.end();
    }
}
