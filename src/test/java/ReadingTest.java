/** Promises 4, 5 and 6: what is an expression, and the PLACE of a FAULT of reading. */
public final class ReadingTest {
    private static void atoms() {
        Probe.gives1("0", "0");
        Probe.gives1("-0", "0");
        Probe.gives1("007", "7");
        Probe.gives1("999999999", "999999999");
        Probe.gives1("-999999999", "-999999999");
        Probe.gives1("1234567890", "place 9");
        Probe.gives1("-1234567890", "place 10");
        Probe.gives1("0000000000", "place 9");
        Probe.gives1("-", "place 1");
        Probe.gives1("--1", "place 1");
        Probe.gives1("-A", "place 1");
        Probe.gives1("- 1", "place 1");
        Probe.gives1("+1", "place 0");
        Probe.gives1("(QUOTE ABCDEFGHIJKL)", "ABCDEFGHIJKL");
        Probe.gives1("(QUOTE A23456789012)", "A23456789012");
        Probe.gives1("ABCDEFGHIJKLM", "place 12");
        Probe.gives1("ABCDEFGHIJKL1", "place 12");
        Probe.gives1("(QUOTE ZZZZZZZZZZZZ)", "ZZZZZZZZZZZZ");
        Probe.gives1("(QUOTE Z99999999999)", "Z99999999999");
        Probe.gives1("(EQ (QUOTE A) (QUOTE A0))", "NIL");
        Probe.gives1("a", "place 0");
        Probe.wide().gives("NIl", "fault 1", "place 2");
        Probe.wide().gives("Ta", "T", "place 1", "none");
        Probe.wide().gives("1T", "1", "T", "none");
        Probe.wide().gives("1-2T-3()4", "1", "-2", "T", "-3", "NIL", "4", "none");
        Probe.wide().gives("(QUOTE(1A-2B(C)D))", "(1 A -2 B (C) D)");
    }

    private static void lists() {
        Probe.gives1("()", "NIL");
        Probe.gives1("( \n )", "NIL");
        Probe.gives1("(QUOTE ())", "NIL");
        Probe.gives1("(QUOTE (A.B))", "(A . B)");
        Probe.gives1("(QUOTE (1.5))", "(1 . 5)");
        Probe.gives1("(QUOTE (A . (B . (C . ()))))", "(A B C)");
        Probe.gives1("(QUOTE (A . (B . C)))", "(A B . C)");
        Probe.gives1("(QUOTE . (A))", "A");
        Probe.gives1("\n (\nQUOTE\n(A\n.\nB\n)\n)", "(A . B)");
        Probe.gives1("(QUOTE (()))", "(NIL)");
        Probe.gives1("(QUOTE ((A).(B)))", "((A) B)");
    }

    private static void faults() {
        Probe.gives1(")", "place 0");
        Probe.gives1("  )", "place 2");
        Probe.gives1(".", "place 0");
        Probe.gives1("(. A)", "place 1");
        Probe.gives1("(A . )", "place 5");
        Probe.gives1("(A . . B)", "place 5");
        Probe.gives1("(A . B C)", "place 7");
        Probe.gives1("(A . B . C)", "place 7");
        Probe.gives1("(A . B (C))", "place 7");
        Probe.gives1("(A . B 1)", "place 7");
        Probe.gives1("(A . 1A)", "place 6");
        Probe.gives1("(A . B", "place 6");
        Probe.gives1("(A . B   ", "place 9");
        Probe.gives1("(A .", "place 4");
        Probe.gives1("(A", "place 2");
        Probe.gives1("(", "place 1");
        Probe.gives1("(A ' B)", "place 3");
        Probe.gives1("(A b)", "place 3");
        Probe.gives1("(A -)", "place 4");
        Probe.gives1("(-", "place 2");
        Probe.gives1("~", "place 0");
    }

    private static void depth() {
        String open = "(";
        String close = ")";
        String sixty = "(QUOTE" + open.repeat(59) + close.repeat(60);
        Probe.gives1(sixty, open.repeat(58) + "NIL" + close.repeat(58));
        Probe.gives1(open.repeat(61) + close.repeat(61), "place 60");
        Probe.gives1(open.repeat(60), "place 60");
        Probe.gives1("(QUOTE " + open.repeat(59) + "1 .(" + close.repeat(61), "place 69");
        Probe.gives1("(QUOTE(" + "()".repeat(90) + "))", "(" + "NIL ".repeat(89) + "NIL)");
        // A list that was closed is not open any more.
        Probe.gives1("(QUOTE(" + (open.repeat(58) + close.repeat(58)).repeat(2) + "))",
            "(" + (open.repeat(57) + "NIL" + close.repeat(57) + " ").repeat(2).trim() + ")");
    }

    /** Texts that are as long as a text may be, with a token in every character. */
    private static void longest() {
        Probe.gives1("(" + "()".repeat(999) + "(", "place 2000");
        Probe.gives1("(" + "()".repeat(999) + ")", "fault 3");
        Probe.gives1("1".repeat(9) + " ".repeat(1991), "111111111");
        Probe.gives1(" ".repeat(2000), "none");
        Probe.gives1(" ".repeat(1999) + "T", "T");
        Probe.gives1(" ".repeat(1999) + "-", "place 2000");
        Probe.gives1("(QUOTE(" + "1A ".repeat(663) + "))", "fault 6");
    }

    private static void standing() {
        Probe probe = Probe.wide();
        probe.gives("  (CAR 1)  X (A . ) 5 6", "fault 2");
        Probe.due("place behind a fault of evaluating", 9, probe.house.place());
        Probe.due("next", "fault 1", probe.next());
        Probe.due("place behind a name", 12, probe.house.place());
        Probe.due("fault", 1, probe.house.fault());
        Probe.due("next", "place 18", probe.next());
        Probe.due("fault of reading", 10, probe.house.fault());
        probe.house.write(0x20L);
        Probe.due("the place stays", 18, probe.house.place());
        Probe.due("the rest is passed", "none", probe.next());
        Probe.due("place at the end", 24, probe.house.place());
        Probe.due("fault", 0, probe.house.fault());
        probe.gives("7", "7");
        Probe.due("place", 25, probe.house.place());
        probe.gives(" \n  ", "none");
        Probe.due("blanks are passed", 29, probe.house.place());
    }

    private static void rightException() {
        boolean state = false;
        boolean argument = false;
        Probe probe = Probe.wide();
        probe.write("X )");
        try {
            probe.house.next();
        } catch (IllegalStateException e) {
            state = true;
        }
        try {
            probe.house.next();
        } catch (IllegalArgumentException e) {
            argument = true;
        }
        Probe.due("IllegalStateException", true, state);
        Probe.due("IllegalArgumentException", true, argument);
    }

    public static void main(String[] args) {
        atoms();
        lists();
        faults();
        depth();
        longest();
        standing();
        rightException();
        Probe.end();
    }
}
