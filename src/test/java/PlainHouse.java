import java.util.ArrayList;
import java.util.Collections;
import java.util.HashMap;
import java.util.IdentityHashMap;
import java.util.List;
import java.util.Map;
import java.util.Set;
import java.util.TreeSet;

/**
 * The document again, written as plainly as the Java library allows: recursion, objects, and a count of all that is
 * held whenever a pair is wanted. It is compared with ConsHouse by ModelTest.
 */
final class PlainHouse {
    private static final String NIL = "NIL";
    private static final List<String> FIRST = List.of("NIL", "T", "QUOTE", "COND", "DEFINE", "LAMBDA", "LABEL", "CAR",
        "CDR", "CONS", "ATOM", "EQ", "NULL", "NUMBERP", "PLUS", "DIFFERENCE", "TIMES", "LESSP");

    private static final class Pair {
        final Object car;
        Object cdr;

        Pair(Object car, Object cdr) {
            this.car = car;
            this.cdr = cdr;
        }
    }

    /** A fault 1 to 9. */
    private static final class Fault extends RuntimeException {
        private static final long serialVersionUID = 1L;
        final int number;

        Fault(int number) {
            super("fault", null, false, false);
            this.number = number;
        }
    }

    /** A fault of reading at where the reader stands. */
    private static final class Unreadable extends RuntimeException {
        private static final long serialVersionUID = 1L;

        Unreadable() {
            super("unreadable", null, false, false);
        }
    }

    private final int cells;
    private final int tasks;
    private final int stepLimit;
    private final StringBuilder text = new StringBuilder();
    private final Set<String> names = new TreeSet<>(FIRST);
    private final Map<String, Object> globals = new HashMap<>();
    private final List<List<Object>> waiting = new ArrayList<>();
    private int position = 0;
    private int faultPlace = -1;
    private int fault = 0;
    private int steps = 0;
    private int greatest = 0;
    private String printed = "";

    private int at;
    private int open;
    private int pairs;
    private Set<String> met;

    PlainHouse(int cells, int tasks, int steps) {
        this.cells = cells >= 16 && cells <= 1000 ? cells : 300;
        this.tasks = tasks >= 4 && tasks <= 200 ? tasks : 100;
        this.stepLimit = steps >= 10 && steps <= 20000 ? steps : 5000;
    }

    boolean write(long eight) {
        StringBuilder more = new StringBuilder();
        for (int k = 7; k >= 0; k--) {
            int code = (int) (eight >> 8 * k & 255);
            if (code != 0) {
                if (code != 10 && (code < 32 || code > 126)) {
                    return false;
                }
                more.append((char) code);
            }
        }
        if (text.length() + more.length() > 2000) {
            return false;
        }
        text.append(more);
        return true;
    }

    void clear() {
        text.setLength(0);
        position = 0;
        faultPlace = -1;
    }

    /** 1 and 0 as the document says, -1 for a fault of reading, -2 for another. */
    int next() {
        printed = "";
        fault = 0;
        steps = 0;
        greatest = 0;
        faultPlace = -1;
        waiting.clear();
        at = position;
        passBlanks();
        position = at;
        if (at == text.length()) {
            return 0;
        }
        try {
            Object whole = readWhole();
            StringBuilder all = new StringBuilder();
            show(evaluate(whole, NIL), all);
            printed = all.substring(0, Math.min(400, all.length()));
            return 1;
        } catch (Unreadable e) {
            fault = 10;
            faultPlace = at;
            position = text.length();
            return -1;
        } catch (Fault e) {
            fault = e.number;
            return -2;
        }
    }

    int fault() {
        return fault;
    }

    int place() {
        return faultPlace >= 0 ? faultPlace : position;
    }

    int size() {
        return printed.length();
    }

    int out(int k) {
        return k >= 0 && k < printed.length() ? printed.charAt(k) : -1;
    }

    int count(int what) {
        if (what == 0) {
            return steps;
        }
        if (what == 1) {
            return reachable(List.of(globals.values().toArray()));
        }
        return what == 2 ? names.size() : what == 3 ? greatest : -1;
    }

    private Object readWhole() {
        open = 0;
        pairs = 0;
        met = new TreeSet<>(names);
        Object whole = readOne();
        position = at;
        if (met.size() > 150) {
            throw new Fault(9);
        }
        names.addAll(met);
        want(pairs, List.of());
        return whole;
    }

    private char here() {
        return at < text.length() ? text.charAt(at) : 0;
    }

    private void passBlanks() {
        while (here() == ' ' || here() == '\n') {
            at++;
        }
    }

    private static boolean isDigit(char c) {
        return c >= '0' && c <= '9';
    }

    private static boolean isCapital(char c) {
        return c >= 'A' && c <= 'Z';
    }

    private Object readOne() {
        passBlanks();
        if (isCapital(here())) {
            return readName();
        }
        if (here() == '-' || isDigit(here())) {
            return readNumber();
        }
        if (here() != '(' || open == 60) {
            throw new Unreadable();
        }
        at++;
        open++;
        Object list = readRest(true);
        open--;
        return list;
    }

    private Object readRest(boolean first) {
        passBlanks();
        if (here() == ')') {
            at++;
            return NIL;
        }
        if (here() == '.' && !first) {
            at++;
            Object last = readOne();
            passBlanks();
            if (here() != ')') {
                throw new Unreadable();
            }
            at++;
            return last;
        }
        Object car = readOne();
        pairs++;
        return new Pair(car, readRest(false));
    }

    private Object readName() {
        int from = at;
        while (isCapital(here()) || isDigit(here())) {
            if (at - from == 12) {
                throw new Unreadable();
            }
            at++;
        }
        String name = text.substring(from, at);
        met.add(name);
        return name;
    }

    private Object readNumber() {
        int from = at;
        if (here() == '-') {
            at++;
        }
        int digits = at;
        while (isDigit(here())) {
            if (at - digits == 9) {
                throw new Unreadable();
            }
            at++;
        }
        if (at == digits) {
            throw new Unreadable();
        }
        return Integer.valueOf(text.substring(from, at));
    }

    private int reachable(List<Object> roots) {
        Set<Object> seen = Collections.newSetFromMap(new IdentityHashMap<>());
        List<Object> open = new ArrayList<>(roots);
        while (!open.isEmpty()) {
            Object one = open.remove(open.size() - 1);
            if (one instanceof List<?> many) {
                open.addAll(many);
            } else if (one instanceof Pair pair && seen.add(pair)) {
                open.add(pair.car);
                open.add(pair.cdr);
            }
        }
        return seen.size();
    }

    private void want(int wanted, List<Object> also) {
        List<Object> roots = new ArrayList<>(globals.values());
        roots.addAll(waiting);
        roots.addAll(also);
        if (wanted + reachable(roots) > cells) {
            throw new Fault(6);
        }
    }

    private void step() {
        if (steps == stepLimit) {
            throw new Fault(8);
        }
        steps++;
    }

    private void await(List<Object> held) {
        if (waiting.size() == tasks) {
            throw new Fault(7);
        }
        waiting.add(held);
        greatest = Math.max(greatest, waiting.size());
    }

    private void leave() {
        waiting.remove(waiting.size() - 1);
    }

    /** The elements of a list, null if it is none. */
    private static List<Object> elements(Object list) {
        List<Object> all = new ArrayList<>();
        Object rest = list;
        while (rest instanceof Pair pair) {
            all.add(pair.car);
            rest = pair.cdr;
        }
        return rest.equals(NIL) ? all : null;
    }

    private Object bound(Object name, Object a) {
        for (Object rest = a; rest instanceof Pair link; rest = link.cdr) {
            Pair binding = (Pair) link.car;
            if (binding.car.equals(name)) {
                return binding.cdr;
            }
        }
        if (!globals.containsKey(name)) {
            throw new Fault(1);
        }
        return globals.get(name);
    }

    private static boolean isFixed(Object atom) {
        return atom instanceof Integer || atom.equals(NIL) || atom.equals("T");
    }

    /** What a call's body goes on with: an expression and bindings, or a value. */
    private record Rest(Object expression, Object a, Object value) {
    }

    private Object evaluate(Object whole, Object bindings) {
        Object e = whole;
        Object a = bindings;
        for (;;) {
            step();
            if (!(e instanceof Pair pair)) {
                return isFixed(e) ? e : bound(e, a);
            }
            if (pair.car.equals("QUOTE")) {
                return parts(e, 2).get(1);
            }
            if (pair.car.equals("DEFINE")) {
                return define(parts(e, 3));
            }
            if (pair.car.equals("COND")) {
                e = chosen(pair.cdr, a);
                continue;
            }
            List<Object> values = values(pair, a);
            Rest rest = apply(pair.car, values, a);
            if (rest.value != null) {
                return rest.value;
            }
            e = rest.expression;
            a = rest.a;
        }
    }

    private static List<Object> parts(Object form, int length) {
        List<Object> all = elements(form);
        if (all == null || all.size() != length) {
            throw new Fault(3);
        }
        return all;
    }

    private Object define(List<Object> form) {
        if (!(form.get(1) instanceof String name) || isFixed(name)) {
            throw new Fault(3);
        }
        globals.put(name, form.get(2));
        return name;
    }

    private Object chosen(Object clauses, Object a) {
        Object rest = clauses;
        for (;;) {
            if (rest.equals(NIL)) {
                throw new Fault(5);
            }
            if (!(rest instanceof Pair pair)) {
                throw new Fault(3);
            }
            List<Object> clause = parts(pair.car, 2);
            await(List.of(rest, a));
            Object value = evaluate(clause.get(0), a);
            leave();
            if (!value.equals(NIL)) {
                return clause.get(1);
            }
            rest = pair.cdr;
            step();
        }
    }

    private List<Object> values(Pair call, Object a) {
        List<Object> values = new ArrayList<>();
        Object rest = call.cdr;
        while (!rest.equals(NIL)) {
            if (!(rest instanceof Pair pair) || values.size() == 8) {
                throw new Fault(3);
            }
            List<Object> held = new ArrayList<>(List.of(call.car, values, pair.cdr, a));
            if (values.isEmpty()) {
                await(held);
            } else {
                waiting.set(waiting.size() - 1, held);
            }
            values.add(evaluate(pair.car, a));
            rest = pair.cdr;
        }
        if (!values.isEmpty()) {
            leave();
        }
        return values;
    }

    private Rest apply(Object function, List<Object> values, Object bindings) {
        Object f = function;
        Object a = bindings;
        for (;;) {
            step();
            if (!(f instanceof Pair pair)) {
                if (isFixed(f)) {
                    throw new Fault(4);
                }
                if (FIRST.indexOf(f) >= 7) {
                    return new Rest(null, null, builtIn((String) f, values));
                }
                f = bound(f, a);
            } else if (pair.car.equals("LAMBDA")) {
                List<Object> form = parts(f, 3);
                List<Object> parameters = elements(form.get(1));
                if (parameters == null || parameters.size() != values.size()) {
                    throw new Fault(3);
                }
                for (Object parameter : parameters) {
                    if (!(parameter instanceof String)) {
                        throw new Fault(3);
                    }
                }
                want(2 * values.size(), List.of(f, values, a));
                for (int k = values.size() - 1; k >= 0; k--) {
                    a = new Pair(new Pair(parameters.get(k), values.get(k)), a);
                }
                return new Rest(form.get(2), a, null);
            } else if (pair.car.equals("LABEL")) {
                List<Object> form = parts(f, 3);
                if (!(form.get(1) instanceof String)) {
                    throw new Fault(3);
                }
                want(2, List.of(f, values, a));
                a = new Pair(new Pair(form.get(1), form.get(2)), a);
                f = form.get(2);
            } else {
                await(List.of(values, a));
                f = evaluate(f, a);
                leave();
            }
        }
    }

    private Object builtIn(String name, List<Object> values) {
        int due = List.of("CAR", "CDR", "ATOM", "NULL", "NUMBERP").contains(name) ? 1 : 2;
        if (values.size() != due) {
            throw new Fault(3);
        }
        Object x = values.get(0);
        Object y = values.get(due - 1);
        switch (name) {
            case "CAR":
            case "CDR":
                if (!(x instanceof Pair pair)) {
                    throw new Fault(2);
                }
                return name.equals("CAR") ? pair.car : pair.cdr;
            case "CONS":
                want(1, values);
                return new Pair(x, y);
            case "ATOM":
                return x instanceof Pair ? NIL : "T";
            case "EQ":
                if (x instanceof Pair || y instanceof Pair) {
                    throw new Fault(2);
                }
                return x.equals(y) ? "T" : NIL;
            case "NULL":
                return x.equals(NIL) ? "T" : NIL;
            case "NUMBERP":
                return x instanceof Integer ? "T" : NIL;
            default:
                if (!(x instanceof Integer p) || !(y instanceof Integer q)) {
                    throw new Fault(2);
                }
                return reckoned(name, p, q);
        }
    }

    private static Object reckoned(String name, int p, int q) {
        switch (name) {
            case "PLUS":
                return p + q;
            case "DIFFERENCE":
                return p - q;
            case "TIMES":
                return p * q;
            default:
                return p < q ? "T" : NIL;
        }
    }

    /** Stops soon behind the limit, since a value may be shared in itself very often. */
    private static void show(Object value, StringBuilder to) {
        if (to.length() > 400) {
            return;
        }
        if (!(value instanceof Pair)) {
            to.append(value);
            return;
        }
        to.append('(');
        Object rest = value;
        while (rest instanceof Pair pair && to.length() <= 400) {
            show(pair.car, to);
            rest = pair.cdr;
            if (rest instanceof Pair) {
                to.append(' ');
            }
        }
        if (!rest.equals(NIL)) {
            to.append(" . ").append(rest);
        }
        to.append(')');
    }
}
