/** A house under test: texts go in whole, and every answer that is not the due one is printed with its sentence. */
final class Probe {
    /** What the document promises is about so many calls of one object. */
    static final int CALLS = 512;

    private static String sentence = "";
    private static int wrong = 0;
    private static int asked = 0;

    private final ConsHouse house;
    private int calls = 0;

    Probe(int cells, int tasks, int steps) {
        house = new ConsHouse(cells, tasks, steps);
    }

    /** A house with room enough for all that is not about limits. */
    static Probe wide() {
        return new Probe(1000, 200, 20000);
    }

    /** The document's words that the following answers are about. */
    static void sentence(String words) {
        sentence = words;
    }

    static void due(String what, Object want, Object got) {
        asked++;
        if (!want.equals(got)) {
            wrong++;
            System.out.println("[" + sentence + "] " + what + ": answered " + got + ", due is " + want);
        }
    }

    /** Ends a test: exit code 1 if an answer was wrong, or if nothing was asked. */
    static void end() {
        if (wrong > 0 || asked == 0) {
            System.out.println(wrong + " of " + asked + " answers are not as due");
            System.exit(1);
        }
    }

    /** Nothing is promised about later calls, so a test that makes them is wrong itself. */
    private ConsHouse called() {
        calls++;
        if (calls == CALLS + 1) {
            due("calls of one object", CALLS, calls);
        }
        return house;
    }

    int calls() {
        return calls;
    }

    boolean write(long eight) {
        return called().write(eight);
    }

    void clear() {
        called().clear();
    }

    int fault() {
        return called().fault();
    }

    int place() {
        return called().place();
    }

    int size() {
        return called().size();
    }

    int out(int k) {
        return called().out(k);
    }

    int count(int what) {
        return called().count(what);
    }

    /** What next() does: "1" and "0" for its answers, the exception's name for a throw. */
    String call() {
        try {
            return "" + called().next();
        } catch (RuntimeException e) {
            return e.getClass().getSimpleName();
        }
    }

    /** The printed value, "none" behind the last expression, "place n" and "fault n" for faults. */
    String next() {
        String done = call();
        switch (done) {
            case "1":
                return printed();
            case "0":
                return "none";
            case "IllegalArgumentException":
                return "place " + place();
            case "IllegalStateException":
                return "fault " + fault();
            default:
                return done;
        }
    }

    /** As next(), but a value is not looked at: "1". */
    String nextKind() {
        String done = call();
        return done.equals("IllegalStateException") ? "fault " + fault() : done;
    }

    String printed() {
        StringBuilder all = new StringBuilder();
        int size = size();
        for (int k = 0; k < size; k++) {
            all.append((char) out(k));
        }
        return all.toString();
    }

    /** The words that write a text, eight characters each. */
    static long[] packed(String text) {
        long[] words = new long[(text.length() + 7) / 8];
        for (int k = 0; k < text.length(); k++) {
            words[k / 8] = words[k / 8] << 8 | text.charAt(k);
        }
        return words;
    }

    Probe write(String text) {
        for (long word : packed(text)) {
            due("write of " + text, true, write(word));
        }
        return this;
    }

    /** Writes a text and asks for what its expressions answer, one after the other. */
    Probe gives(String text, String... answers) {
        write(text);
        for (int k = 0; k < answers.length; k++) {
            due(text + " [" + k + "]", answers[k], next());
        }
        return this;
    }

    Probe counts(int what, int want) {
        due("count(" + what + ")", want, count(what));
        return this;
    }

    Probe stands(int want) {
        due("place()", want, place());
        return this;
    }

    Probe tells(int want) {
        due("fault()", want, fault());
        return this;
    }

    Probe prints(String want) {
        due("printed", want, printed());
        return this;
    }

    /** What a text's expressions answer in a new, wide house. */
    static void fresh(String text, String... answers) {
        wide().gives(text, answers);
    }
}
