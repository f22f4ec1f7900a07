/** Promises 7 and 8 with PRINTED: what is printed, how much of it, and when it is gone. */
public final class PrintingTest {
    private static void atoms() {
        Probe.sentence("PRINTED is the value: atoms as they are read");
        Probe.fresh("0 9 10 99 100 -1 -9 -10 -100", "0", "9", "10", "99", "100", "-1", "-9", "-10", "-100");
        Probe.fresh("-0 00 -00 007 -010", "0", "0", "0", "7", "-10");
        Probe.fresh("999999999 -999999999 100000000", "999999999", "-999999999", "100000000");
        Probe.fresh("(PLUS 999999999 1)", "1000000000");
        Probe.fresh("(TIMES 65536 32768)", "-2147483648");
        Probe.fresh("(DIFFERENCE (TIMES 65536 32768) 1)", "2147483647");
        Probe.fresh("(PLUS (TIMES 65536 32768) 1)", "-2147483647");
        Probe.fresh("(QUOTE A) (QUOTE ABCDEFGHIJ09) (QUOTE ZZZZZZZZZZZZ) (QUOTE A00000000000) (QUOTE Z0)",
            "A", "ABCDEFGHIJ09", "ZZZZZZZZZZZZ", "A00000000000", "Z0");
        Probe.fresh("NIL () T", "NIL", "NIL", "T");
    }

    private static void lists() {
        Probe.sentence("lists with one blank between, and . with blanks around it");
        Probe.fresh("(QUOTE (A))", "(A)");
        Probe.fresh("(QUOTE (A\n  B))", "(A B)");
        Probe.fresh("(QUOTE (A.B))", "(A . B)");
        Probe.fresh("(QUOTE (A B . C))", "(A B . C)");
        Probe.fresh("(QUOTE (A B . 0))", "(A B . 0)");
        Probe.fresh("(QUOTE (A . T))", "(A . T)");
        Probe.fresh("(QUOTE (A . NIL))", "(A)");
        Probe.fresh("(QUOTE (NIL . NIL))", "(NIL)");
        Probe.fresh("(QUOTE (NIL NIL . -1))", "(NIL NIL . -1)");
        Probe.fresh("(QUOTE (A (B . C) () -5 (((D)))))", "(A (B . C) NIL -5 (((D))))");
        Probe.fresh("(QUOTE (((A . 1) . 2) . 3))", "(((A . 1) . 2) . 3)");
        Probe.fresh("(QUOTE ((A) (B) . C))", "((A) (B) . C)");
        Probe.fresh("(QUOTE ((A) . (B)))", "((A) B)");
        Probe.fresh("(QUOTE ((((A) B) C) D))", "((((A) B) C) D)");
        Probe.fresh("(CONS (TIMES 65536 32768) 0)", "(-2147483648 . 0)");
    }

    /** A list whose printed form has so many characters: digits, with one name of two at the end. */
    private static String list(int length) {
        return "(" + "1 ".repeat((length - 3) / 2) + (length % 2 == 1 ? "1)" : "AB)");
    }

    private static void cut(String whole) {
        Probe probe = Probe.wide();
        int due = Math.min(400, whole.length());
        probe.gives("(QUOTE" + whole + ")", whole.substring(0, due));
        Probe.due("size of " + whole, due, probe.size());
        Probe.due("the last one", (int) whole.charAt(due - 1), probe.out(due - 1));
        Probe.due("behind the last one", -1, probe.out(due));
    }

    private static void cuts() {
        Probe.sentence("what is beyond 400 characters is cut");
        for (int length = 397; length <= 404; length++) {
            Probe.due("length", length, list(length).length());
            cut(list(length));
        }
        // Cut in a name, in a number, in a dot and its blanks, among parentheses: each a character apart.
        for (int length = 385; length <= 401; length += 2) {
            String ahead = list(length).substring(0, length - 1);
            cut(ahead + " ABCDEFGHIJKL)");
            cut(ahead + " -123456789)");
            cut(ahead + " . ABCDEFGHIJKL)");
            cut(ahead + " . -123456789)");
            cut(ahead + " ((((((2 . 3)))))))");
        }
        String parentheses = "(".repeat(57) + "1" + ")".repeat(57);
        cut("(" + "1 ".repeat(142) + parentheses + ")");
        cut("(" + "1 ".repeat(141) + parentheses + " " + parentheses + ")");
    }

    /** A house with a function (D N X) that makes X larger, N times by the step. */
    private static Probe growing(String step) {
        return Probe.wide().gives("(DEFINE D (LAMBDA (N X) (COND ((EQ N 0) X) (T (D (DIFFERENCE N 1) " + step + ")))))",
            "D");
    }

    /** Values whose printed form is far larger, or far deeper, than what is printed. */
    private static void large() {
        Probe.sentence("what is beyond 400 characters is cut (of values without a bound)");
        String one = "(CONS X NIL)";
        String four = "(CONS (CONS (CONS (CONS X NIL) NIL) NIL) NIL)";
        growing(one).gives("(D 130 1)", "(".repeat(130) + "1" + ")".repeat(130));
        growing(four).gives("(D 90 1)", "(".repeat(360) + "1" + ")".repeat(39));
        growing(four).gives("(D 99 1)", "(".repeat(396) + "1" + ")".repeat(3));
        growing(four).gives("(D 99 (QUOTE (A)))", "(".repeat(397) + "A))");
        growing(four).gives("(D 100 1)", "(".repeat(400));
        growing(four).gives("(D 100 (QUOTE (A)))", "(".repeat(400));
        growing(four).gives("(D 110 1)", "(".repeat(400));
        // Shared in itself so often that it would never end.
        Probe shared = growing("(CONS X X)");
        shared.write("(D 100 1)");
        String many = shared.next();
        Probe.due("the beginning", "(".repeat(100) + "1 . 1) 1 . 1) (1 . 1) 1 . 1)", many.substring(0, 128));
        Probe.due("the size", 400, many.length());
    }

    private static void sizes() {
        Probe.sentence("How many characters are printed");
        Probe probe = Probe.wide();
        Probe.due("of a new object", 0, probe.size());
        probe.write("5 -12 NIL (QUOTE (A . B)) (QUOTE ABCDEFGHIJKL)");
        for (int size : new int[] {1, 3, 3, 7, 12}) {
            Probe.due("next", "1", probe.call());
            Probe.due("size", size, probe.size());
        }
    }

    private static void indices() {
        Probe.sentence("Character k of what is printed; NONE without");
        Probe probe = Probe.wide();
        Probe.due("nothing is printed", -1, probe.out(0));
        Probe.due("nothing is printed", -1, probe.out(-1));
        probe.gives("(QUOTE (A))", "(A)");
        Probe.due("out(-1)", -1, probe.out(-1));
        Probe.due("out(0)", 40, probe.out(0));
        Probe.due("out(1)", 65, probe.out(1));
        Probe.due("out(2)", 41, probe.out(2));
        Probe.due("out(3)", -1, probe.out(3));
        for (int k : new int[] {4, 399, 400, 401, Integer.MAX_VALUE, Integer.MIN_VALUE, -2, -400}) {
            Probe.due("out(" + k + ")", -1, probe.out(k));
        }
        Probe full = Probe.wide();
        full.write("(QUOTE " + list(405) + ")");
        Probe.due("next", "1", full.call());
        Probe.due("out(398)", (int) ' ', full.out(398));
        Probe.due("out(399)", (int) '1', full.out(399));
        Probe.due("out(400)", -1, full.out(400));
        Probe.due("out(401)", -1, full.out(401));
        Probe.due("out(-1)", -1, full.out(-1));
    }

    private static void gone() {
        Probe.sentence("What was printed is gone with both, and with 0");
        Probe probe = Probe.wide();
        probe.gives("(QUOTE (A)) X", "(A)", "fault 1");
        Probe.due("with a fault", 0, probe.size());
        Probe.due("with a fault", -1, probe.out(0));
        probe.gives(" 12 ", "12", "none");
        Probe.due("with 0", 0, probe.size());
        Probe.due("with 0", -1, probe.out(0));
        probe.gives(" 12 )", "12", "place 21");
        Probe.due("with a FAULT of reading", 0, probe.size());
        Probe.due("with a FAULT of reading", -1, probe.out(0));
        probe.gives(" 12 (QUOTE ABCDEFGHIJKLM)", "12", "place 45").prints("");
        // A shorter value leaves nothing of a longer one; write and clear leave what is printed.
        probe.gives(" 123", "123").gives(" 4", "4").prints("4");
        Probe.due("behind it", -1, probe.out(1));
        probe.write(" 5");
        probe.prints("4");
        probe.clear();
        probe.prints("4");
    }

    public static void main(String[] args) {
        atoms();
        lists();
        cuts();
        large();
        sizes();
        indices();
        gone();
        Probe.end();
    }
}
