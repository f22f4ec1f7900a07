/** A house under test: texts go in whole, and every answer that is not the due one is printed. */
final class Probe {
    private static int wrong = 0;
    private static int asked = 0;

    final ConsHouse house;

    Probe(int cells, int tasks, int steps) {
        house = new ConsHouse(cells, tasks, steps);
    }

    /** A house with room enough for all that is not about limits. */
    static Probe wide() {
        return new Probe(1000, 200, 20000);
    }

    static void due(String what, Object want, Object got) {
        asked++;
        if (!want.equals(got)) {
            wrong++;
            System.out.println(what + ": answered " + got + ", due is " + want);
        }
    }

    /** Ends a test: exit code 1 if an answer was wrong, or if nothing was asked. */
    static void end() {
        if (wrong > 0 || asked == 0) {
            System.out.println(wrong + " of " + asked + " answers are not as due");
            System.exit(1);
        }
    }

    /** The words that write a text, eight characters each. */
    static long[] packed(String text) {
        long[] words = new long[(text.length() + 7) / 8];
        for (int k = 0; k < text.length(); k++) {
            words[k / 8] = words[k / 8] << 8 | text.charAt(k);
        }
        return words;
    }

    Probe write(String text) {
        for (long word : packed(text)) {
            due("write of " + text, true, house.write(word));
        }
        return this;
    }

    /** The printed value, "none" behind the last expression, "place n" and "fault n" for faults. */
    String next() {
        try {
            return house.next() == 1 ? printed() : "none";
        } catch (IllegalArgumentException e) {
            return "place " + house.place();
        } catch (IllegalStateException e) {
            return "fault " + house.fault();
        }
    }

    String printed() {
        StringBuilder all = new StringBuilder();
        for (int k = 0; k < house.size(); k++) {
            all.append((char) house.out(k));
        }
        return all.toString();
    }

    /** Writes a text and asks for what its expressions answer, one after the other. */
    Probe gives(String text, String... answers) {
        write(text);
        for (int k = 0; k < answers.length; k++) {
            due(text + " [" + k + "]", answers[k], next());
        }
        return this;
    }

    Probe counts(int what, int want) {
        due("count(" + what + ")", want, house.count(what));
        return this;
    }

    /** What one text's first expression answers in a new, wide house. */
    static void gives1(String text, String answer) {
        wide().gives(text, answer);
    }

    static String repeat(String part, int times) {
        return part.repeat(times);
    }
}
