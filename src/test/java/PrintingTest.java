/** Promises 7 and 8: what is printed, and when it is gone. */
public final class PrintingTest {
    private static void values() {
        Probe.gives1("(QUOTE (A (B . C) () -5 (((D)))))", "(A (B . C) NIL -5 (((D))))");
        Probe.gives1("(QUOTE (NIL . NIL))", "(NIL)");
        Probe.gives1("(QUOTE (A . T))", "(A . T)");
        Probe.gives1("(QUOTE (((A . 1) . 2) . 3))", "(((A . 1) . 2) . 3)");
        Probe.gives1("(CONS (TIMES 65536 32768) 0)", "(-2147483648 . 0)");
        Probe.gives1("(QUOTE ABCDEFGHIJ09)", "ABCDEFGHIJ09");
        Probe.gives1("(QUOTE ((A) (B) . C))", "((A) (B) . C)");
    }

    /** A quoted list whose printed form has so many characters: digits, with one name of two at the end. */
    private static String list(int length) {
        return "(" + "1 ".repeat((length - 3) / 2) + (length % 2 == 1 ? "1)" : "AB)");
    }

    private static void cut() {
        for (int length = 395; length <= 405; length++) {
            String whole = list(length);
            Probe.due("length", length, whole.length());
            Probe probe = Probe.wide();
            probe.gives("(QUOTE " + whole + ")", whole.substring(0, Math.min(400, length)));
            Probe.due("size", Math.min(400, length), probe.house.size());
            Probe.due("behind the end", -1, probe.house.out(probe.house.size()));
        }
        String half = "(" + "1 ".repeat(197) + "1";
        Probe.gives1("(QUOTE " + half + " . ABC))", (half + " . ABC)").substring(0, 400));
        Probe.gives1("(QUOTE " + half + "23456 ABCDEF))", (half + "23456 ABCDEF)").substring(0, 400));
        Probe.gives1("(QUOTE " + half + "  ((((2))))))", (half + " ((((2)))))").substring(0, 400));
    }

    /** Values whose printed form is far larger, or far deeper, than what is printed. */
    private static void large() {
        Probe deep = Probe.wide();
        deep.gives("(DEFINE D (LAMBDA (N X) (COND ((EQ N 0) X) (T (D (DIFFERENCE N 1) (CONS X NIL))))))", "D");
        deep.gives("(D 130 1)", "(".repeat(130) + "1" + ")".repeat(130));
        deep.gives("(DEFINE E (LAMBDA (N) (COND ((EQ N 0) 1) (T (CONS (E (DIFFERENCE N 1)) NIL)))))", "E");
        deep.gives("(E 180)", "(".repeat(180) + "1" + ")".repeat(180));
        deep.gives("(DEFINE B (LAMBDA (N X) (COND ((EQ N 0) X) (T (B (DIFFERENCE N 1) (CONS X X))))))", "B");
        deep.write("(B 100 1)");
        String many = deep.next();
        Probe.due("the beginning", "(".repeat(100) + "1 . 1) 1 . 1) (1 . 1) 1 . 1)", many.substring(0, 128));
        Probe.due("the size", 400, many.length());
        deep.gives("(DEFINE C (LAMBDA (N X) (COND ((EQ N 0) X) (T (C (DIFFERENCE N 1)"
            + " (CONS (CONS (CONS (CONS X NIL) NIL) NIL) NIL))))))", "C");
        deep.gives("(C 90 1)", "(".repeat(360) + "1" + ")".repeat(39));
        deep.gives("(C 110 1)", "(".repeat(400));
    }

    private static void indices() {
        Probe probe = Probe.wide();
        probe.gives("(QUOTE (A))", "(A)");
        Probe.due("size", 3, probe.house.size());
        Probe.due("out(0)", 40, probe.house.out(0));
        Probe.due("out(1)", 65, probe.house.out(1));
        Probe.due("out(2)", 41, probe.house.out(2));
        Probe.due("out(3)", -1, probe.house.out(3));
        Probe.due("out(-1)", -1, probe.house.out(-1));
        Probe.due("out(least)", -1, probe.house.out(Integer.MIN_VALUE));
        Probe.due("out(most)", -1, probe.house.out(Integer.MAX_VALUE));
        Probe.due("out(400)", -1, probe.house.out(400));
    }

    private static void gone() {
        Probe probe = Probe.wide();
        probe.gives("(QUOTE (A)) X", "(A)", "fault 1");
        Probe.due("gone with a fault", 0, probe.house.size());
        Probe.due("gone with a fault", -1, probe.house.out(0));
        probe.gives(" 12 ", "12", "none");
        Probe.due("gone at the end", 0, probe.house.size());
        probe.gives(" 12 )", "12", "place 21");
        Probe.due("gone with a fault of reading", 0, probe.house.size());
        probe.gives(" 123", "123");
        probe.gives(" 4", "4");
        Probe.due("the latest alone", 1, probe.house.size());
        Probe.due("the latest alone", -1, probe.house.out(1));
        Probe.due("write leaves it", true, probe.house.write(0x35L) && probe.house.size() == 1);
        probe.house.clear();
        Probe.due("clear leaves it", 1, probe.house.size());
    }

    public static void main(String[] args) {
        values();
        cut();
        large();
        indices();
        gone();
        Probe.end();
    }
}
