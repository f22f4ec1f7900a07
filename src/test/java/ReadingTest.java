/** Promises 4 and 6, with TEXT: what is an expression, and the PLACE of a FAULT of reading. */
public final class ReadingTest {
    /** What is read of a text, quoted. */
    private static void reads(String text, String value) {
        Probe.fresh("(QUOTE " + text + ")", value);
    }

    private static void blanks() {
        Probe.sentence("BLANKS (32 and 10) end names and numbers and count for nothing else");
        reads("(A B)", "(A B)");
        reads("(A\nB)", "(A B)");
        reads("(AB)", "(AB)");
        reads("(1 2)", "(1 2)");
        reads("(1\n2)", "(1 2)");
        reads("(12)", "(12)");
        reads("(1 -2\n-3)", "(1 -2 -3)");
        reads("(A 1)", "(A 1)");
        reads("(A1)", "(A1)");
        reads("( \n\n )", "NIL");
        reads("\n(\nA\n.\nB\n)\n", "(A . B)");
        reads("(A.B)", "(A . B)");
        reads("(1.5)", "(1 . 5)");
        reads("((A)(B)C)", "((A) (B) C)");
        Probe.fresh("\n  \n5\n \n6", "5", "6", "none");
        Probe.fresh("(- 1)", "place 2");
        Probe.fresh("(-\n1)", "place 2");
    }

    /** Characters beside the ranges: @ [ ` a z { around letters, / : around digits. */
    private static void namesOf() {
        Probe.sentence("a name (a capital letter, then capital letters and digits");
        reads("A", "A");
        reads("Z", "Z");
        reads("AZ09", "AZ09");
        reads("ZA90", "ZA90");
        reads("A0", "A0");
        reads("A9", "A9");
        for (char other : "@[`az{/:_!\"#$%&'*+,;<=>?\\]^|}~".toCharArray()) {
            Probe.fresh(other + "", "place 0");
            Probe.fresh("A" + other, "fault 1", "place 1");
            Probe.fresh("(A" + other + ")", "place 2");
            Probe.fresh("1" + other, "1", "place 1");
        }
        Probe.fresh("(EQ (QUOTE A) (QUOTE A0))", "NIL");
        Probe.fresh("(EQ (QUOTE A) (QUOTE AA))", "NIL");
        Probe.fresh("(EQ (QUOTE B0) (QUOTE A0))", "NIL");
        Probe.fresh("(EQ (QUOTE ZZZZZZZZZZZZ) (QUOTE ZZZZZZZZZZZY))", "NIL");
        Probe.fresh("(EQ (QUOTE Z99999999999) (QUOTE Z99999999999))", "T");
        for (char first = 'A'; first <= 'Z'; first++) {
            reads("" + first, "" + first);
        }
        reads("A0123456789", "A0123456789");
    }

    private static void lengthOfNames() {
        Probe.sentence("at most 12 together");
        reads("ABCDEFGHIJK", "ABCDEFGHIJK");
        reads("ABCDEFGHIJKL", "ABCDEFGHIJKL");
        reads("A23456789012", "A23456789012");
        reads("ZZZZZZZZZZZZ", "ZZZZZZZZZZZZ");
        for (String thirteenth : new String[] {"A", "M", "Z", "0", "1", "9"}) {
            Probe.fresh("ABCDEFGHIJKL" + thirteenth, "place 12");
            Probe.fresh("A99999999999" + thirteenth, "place 12");
        }
        Probe.fresh("  ABCDEFGHIJKLMN", "place 14");
        Probe.fresh("(ABCDEFGHIJKLM)", "place 13");
        Probe.fresh("(A . ABCDEFGHIJKLM)", "place 17");
        Probe.fresh("ABCDEFGHIJKL M", "fault 1", "fault 1", "none");
        Probe.fresh("ABCDEFGHIJKL-1", "fault 1", "-1", "none");
        Probe.fresh("ABCDEFGHIJKL()", "fault 1", "NIL", "none");
        reads("(ABCDEFGHIJKL.ABCDEFGHIJKL)", "(ABCDEFGHIJKL . ABCDEFGHIJKL)");
    }

    private static void numbers() {
        Probe.sentence("a number (- or not, then one to nine digits)");
        Probe.fresh("0", "0");
        Probe.fresh("9", "9");
        Probe.fresh("-0", "0");
        Probe.fresh("-1", "-1");
        Probe.fresh("007", "7");
        Probe.fresh("-007", "-7");
        Probe.fresh("99999999", "99999999");
        Probe.fresh("999999999", "999999999");
        Probe.fresh("-999999999", "-999999999");
        Probe.fresh("000000000", "0");
        Probe.fresh("1234567890", "place 9");
        Probe.fresh("-1234567890", "place 10");
        Probe.fresh("0000000000", "place 9");
        Probe.fresh("-0000000000", "place 10");
        Probe.fresh("(123456789012)", "place 10");
        Probe.fresh("-", "place 1");
        Probe.fresh("--1", "place 1");
        Probe.fresh("-A", "place 1");
        Probe.fresh("- 1", "place 1");
        Probe.fresh("-)", "place 1");
        Probe.fresh("-(1)", "place 1");
        Probe.fresh("-.1", "place 1");
        Probe.fresh("+1", "place 0");
        Probe.fresh("(-", "place 2");
        Probe.fresh("(A -)", "place 4");
        Probe.fresh("-/", "place 1");
        Probe.fresh("-:", "place 1");
    }

    private static void ends() {
        Probe.sentence("A name or number ends before a character that is none of its (A1 is a name, 1A is 1 and A)");
        reads("(A1)", "(A1)");
        reads("(1A)", "(1 A)");
        reads("(1A-2B(C)D)", "(1 A -2 B (C) D)");
        reads("(999999999A)", "(999999999 A)");
        reads("(999999999-1)", "(999999999 -1)");
        reads("(-1-2)", "(-1 -2)");
        reads("(A-1)", "(A -1)");
        Probe.fresh("1T", "1", "T", "none");
        Probe.fresh("1-2T-3()4", "1", "-2", "T", "-3", "NIL", "4", "none");
        Probe.fresh("NIl", "fault 1", "place 2");
        Probe.fresh("Ta", "T", "place 1", "none");
    }

    private static void lists() {
        Probe.sentence("( and expressions and ); () is the name NIL");
        Probe.fresh("()", "NIL");
        Probe.fresh("(EQ () (QUOTE NIL))", "T");
        reads("()", "NIL");
        reads("(())", "(NIL)");
        reads("(A)", "(A)");
        reads("(A (B) C)", "(A (B) C)");
        Probe.fresh(")", "place 0");
        Probe.fresh("  )", "place 2");
        Probe.fresh("())", "NIL", "place 2", "none");
        Probe.fresh("5)", "5", "place 1");
    }

    private static void dots() {
        Probe.sentence("before the ) may stand . and one expression, if there is one ahead");
        reads("(A . B)", "(A . B)");
        reads("(A B . C)", "(A B . C)");
        reads("((A).(B))", "((A) B)");
        reads("(() . ())", "(NIL)");
        reads("(A . (B . (C . ())))", "(A B C)");
        reads("(A . (B . C))", "(A B . C)");
        Probe.fresh("(QUOTE . (A))", "A");
        Probe.fresh(".", "place 0");
        Probe.fresh(". A", "place 0");
        Probe.fresh("A . B", "fault 1", "place 2");
        Probe.fresh("(.)", "place 1");
        Probe.fresh("(. A)", "place 1");
        Probe.fresh("(A (. B))", "place 4");
        Probe.fresh("((A) (. B))", "place 6");
        Probe.fresh("(A . )", "place 5");
        Probe.fresh("(A .)", "place 4");
        Probe.fresh("(A . . B)", "place 5");
        Probe.fresh("(A .. B)", "place 4");
        Probe.fresh("(A . B C)", "place 7");
        Probe.fresh("(A . B . C)", "place 7");
        Probe.fresh("(A . B (C))", "place 7");
        Probe.fresh("(A . B 1)", "place 7");
        Probe.fresh("(A . B -1)", "place 7");
        Probe.fresh("(A . 1A)", "place 6");
        Probe.fresh("(A . (B) C)", "place 9");
        Probe.fresh("(A . () ())", "place 8");
        Probe.fresh("(A . B ?)", "place 7");
        // A list behind the dot has a dot of its own, and the one around it goes on to its end.
        reads("((A . B) . (C . D))", "((A . B) C . D)");
        reads("((A . B) C . D)", "((A . B) C . D)");
    }

    private static void lastCdr() {
        Probe.sentence("the last CDR, which is NIL otherwise");
        Probe.fresh("(CDR (QUOTE (A)))", "NIL");
        Probe.fresh("(CDR (QUOTE (A . NIL)))", "NIL");
        Probe.fresh("(CDR (QUOTE (A . B)))", "B");
        Probe.fresh("(CDR (CDR (QUOTE (A B . -1))))", "-1");
        Probe.fresh("(CDR (CDR (QUOTE (A B))))", "NIL");
        Probe.fresh("(CDR (QUOTE (A . (B))))", "(B)");
    }

    private static void open() {
        Probe.sentence("At most 60 ( may be open");
        String open = "(";
        String close = ")";
        reads(open.repeat(58) + close.repeat(58), open.repeat(57) + "NIL" + close.repeat(57));
        reads(open.repeat(59) + close.repeat(59), open.repeat(58) + "NIL" + close.repeat(58));
        Probe.fresh("(QUOTE " + open.repeat(60) + close.repeat(61), "place 66");
        Probe.fresh(open.repeat(61) + close.repeat(61), "place 60");
        Probe.fresh(open.repeat(61), "place 60");
        Probe.fresh(open.repeat(60), "place 60");
        Probe.fresh(open.repeat(59), "place 59");
        Probe.fresh("5 " + open.repeat(70), "5", "place 62");
        // In CDRs as in CARs.
        reads("(A . ".repeat(59) + "B" + close.repeat(59), "(" + "A ".repeat(59) + ". B)");
        Probe.fresh("(A . ".repeat(61) + "B" + close.repeat(61), "place 300");
        Probe.fresh("(QUOTE " + open.repeat(59) + "1 .(" + close.repeat(61), "place 69");
        // One that was closed is not open any more.
        reads("(" + "()".repeat(90) + ")", "(" + "NIL ".repeat(89) + "NIL)");
        String fifty = open.repeat(58) + close.repeat(58);
        reads("(" + fifty + fifty + ")",
            "(" + (open.repeat(57) + "NIL" + close.repeat(57) + " ").repeat(2).trim() + ")");
        Probe.fresh("(QUOTE (" + fifty + "(" + fifty, "place " + (8 + 116 + 1 + 57));
        Probe.fresh(open.repeat(60) + close.repeat(59) + open.repeat(59) + "(", "place 178");
        Probe.fresh(open.repeat(60) + close.repeat(59) + open.repeat(59), "place 178");
    }

    private static void firstPlace() {
        Probe.sentence("told with the PLACE of the first character with which none goes on");
        Probe.fresh("?", "place 0");
        Probe.fresh("   ?", "place 3");
        Probe.fresh("(? ! ?)", "place 1");
        Probe.fresh("(A ' B)", "place 3");
        Probe.fresh("(A b)", "place 3");
        Probe.fresh("(A 'B", "place 3");
        Probe.fresh("T (A) ((B . ) C) ?", "T", "fault 1", "place 12", "none");
        Probe.fresh(" ".repeat(1999) + "?", "place 1999");
        Probe.fresh("(" + " ".repeat(1998) + "?", "place 1999");
        Probe.fresh("?" + " ".repeat(1999), "place 0", "none");
    }

    private static void endsTooEarly() {
        Probe.sentence("the text's length if it ends too early");
        Probe.fresh("(", "place 1");
        Probe.fresh("(   ", "place 4");
        Probe.fresh("(A", "place 2");
        Probe.fresh("(A \n", "place 4");
        Probe.fresh("((A)", "place 4");
        Probe.fresh("(A .", "place 4");
        Probe.fresh("(A .   ", "place 7");
        Probe.fresh("(A . B", "place 6");
        Probe.fresh("(A . B   ", "place 9");
        Probe.fresh("-", "place 1");
        Probe.fresh("5 -", "5", "place 3");
        Probe.fresh("(" + " ".repeat(1999), "place 2000");
        Probe.fresh(" ".repeat(1999) + "(", "place 2000");
        Probe.fresh(" ".repeat(1999) + "-", "place 2000");
        // A text may be whole when one of its words was written, and end too early no more with the next one.
        Probe probe = Probe.wide();
        probe.gives("(ATOM", "place 5").gives(" 1)", "1", "place 7").gives("(ATOM", "place 13");
    }

    /** Texts that are as long as a text may be, with a token in every character. */
    private static void longest() {
        Probe.sentence("TEXT: at most 2,000 characters");
        Probe.fresh("(" + "()".repeat(999) + "(", "place 2000");
        Probe.fresh("(" + "()".repeat(999) + ")", "fault 3");
        Probe.fresh("(QUOTE(" + "1A ".repeat(663) + "))", "fault 6");
        Probe.fresh("1".repeat(9) + " ".repeat(1991), "111111111", "none");
        Probe.fresh(" ".repeat(2000), "none");
        Probe.fresh(" ".repeat(1999) + "T", "T", "none");
        Probe.fresh(" ".repeat(1993) + "(ATOM 1", "place 2000");
        Probe.fresh(" ".repeat(1992) + "(ATOM 1)", "T");
        // An expression that ends with the text.
        Probe.fresh(" ".repeat(1988) + "ABCDEFGHIJKL", "fault 1", "none");
        Probe.fresh(" ".repeat(1991) + "999999999", "999999999", "none");
    }

    public static void main(String[] args) {
        blanks();
        namesOf();
        lengthOfNames();
        numbers();
        ends();
        lists();
        dots();
        lastCdr();
        open();
        firstPlace();
        endsTooEarly();
        longest();
        Probe.end();
    }
}
