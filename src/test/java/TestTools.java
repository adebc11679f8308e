import java.lang.reflect.InvocationTargetException;
import java.lang.reflect.Method;
import java.lang.reflect.Modifier;
import java.util.Arrays;
import java.util.Comparator;
import java.util.function.Consumer;
import java.util.function.IntSupplier;
import java.util.function.IntUnaryOperator;
import java.util.function.Supplier;

/** What the tests share: saying what is due, filling a bench, and looking at it. */
abstract class TestTools {
    static final int NONE = WitnessBench.NONE;
    static final Class<?> INDEX = IndexOutOfBoundsException.class;
    static final Class<?> STATE = IllegalStateException.class;
    static final Class<?> ARGUMENT = IllegalArgumentException.class;
    static final Class<?> UNSUPPORTED = UnsupportedOperationException.class;
    static final int FAR_OFF = Integer.MAX_VALUE;
    static final int FAR_BELOW = Integer.MIN_VALUE;

    static int checks = 0;
    static int wrong = 0;
    static String part = "";

    interface Call {
        void run();
    }

    // How tests are run.

    /** Runs all tests of a class, so that none can be forgotten: each static method without parameters is one. */
    static void runAll(Class<?> tests) throws IllegalAccessException {
        Method[] methods = tests.getDeclaredMethods();
        Arrays.sort(methods, Comparator.comparing(Method::getName));
        int sentences = 0;
        for (Method m : methods) {
            if (Modifier.isStatic(m.getModifiers()) && m.getParameterCount() == 0 && m.getReturnType() == void.class) {
                runOne(m);
                sentences++;
            }
        }
        System.out.print(sentences + " sentences, ");
        tellAndExit();
    }

    private static void runOne(Method m) throws IllegalAccessException {
        part = "";
        int before = checks;
        m.setAccessible(true);
        try {
            m.invoke(null);
        } catch (InvocationTargetException e) {
            wrong++;
            System.out.println(m.getName() + ", " + part + ": " + e.getCause());
        }
        if (part.isEmpty() || checks == before) {
            wrong++;
            System.out.println(m.getName() + " names no sentence, or checks nothing");
        }
    }

    /** Says which sentence of the document the checks that follow are for. */
    static void sentence(String where, String words) {
        part = where + ", \"" + words + "\"";
    }

    static void tellAndExit() {
        System.out.println(checks + " checks, " + wrong + " wrong");
        if (wrong > 0) {
            System.exit(1);
        }
    }

    // How to say what is due.

    static void due(String call, long got, long want) {
        checks++;
        if (got != want) {
            wrong++;
            System.out.println(part + ": " + call + " answered " + got + ", due is " + want);
        }
    }

    static void dueText(String call, String got, String want) {
        checks++;
        if (!got.equals(want)) {
            wrong++;
            System.out.println(part + ": " + call + " gave " + got.replace('\n', '|') + ", due is "
                    + want.replace('\n', '|'));
        }
    }

    static void dueThrow(String call, Class<?> want, Call c) {
        checks++;
        Class<?> got = null;
        try {
            c.run();
        } catch (RuntimeException e) {
            got = e.getClass();
        }
        if (got != want) {
            wrong++;
            System.out.println(part + ": " + call + " threw " + got + ", due is " + want);
        }
    }

    // How to fill a bench.

    static void draft(WitnessBench x, String letters) {
        x.cut(0);
        for (char c : letters.toCharArray()) {
            x.type(c);
        }
    }

    /** Words with spaces between them; ? is a gap. */
    static void witness(WitnessBench x, int w, String words) {
        for (String word : words.split(" ")) {
            draft(x, word.equals("?") ? "" : word);
            x.word(w);
        }
    }

    static void rule(WitnessBench x, String left, String right) {
        draft(x, left + right);
        x.rule(left.length());
    }

    static WitnessBench bench(String... witnesses) {
        WitnessBench x = new WitnessBench();
        for (int w = 0; w < witnesses.length; w++) {
            if (!witnesses[w].isEmpty()) {
                witness(x, w, witnesses[w]);
            }
        }
        return x;
    }

    static WitnessBench joined(String... witnesses) {
        WitnessBench x = bench(witnesses);
        for (int w = 0; w < witnesses.length; w++) {
            if (!witnesses[w].isEmpty()) {
                x.join(w);
            }
        }
        return x;
    }

    /**
     * A bench with these witnesses joined, A to C at most, whose OUT holds a text of nine characters or more: D, joined
     * for a while, makes an apparatus of that length. For its sake there is a rule z to zz.
     */
    static WitnessBench withOut(String text, String... witnesses) {
        WitnessBench x = bench(witnesses);
        rule(x, "z", "zz");
        int left = text.length();
        for (int entries = (left + 19) / 20; entries > 0; entries--) {
            int form = left / entries - 8;
            draft(x, "zzzzzz".substring(0, form / 2) + "a".substring(0, form % 2));
            x.word(3);
            left -= form + 8;
        }
        x.join(3);
        x.base(NONE);
        x.apparatus(true);
        x.retract();
        for (int w = 0; w < witnesses.length; w++) {
            x.join(w);
        }
        overwrite(x, text);
        return x;
    }

    /** What is built for a witness, as words with spaces between them; or where the fault is. */
    static String read(WitnessBench x, int w) {
        int answer = x.rebuild(w);
        return answer < 0 ? "fault at " + (-100 - answer) : built(x, answer);
    }

    // How to look at a bench.

    static String row(WitnessBench x, int w) {
        StringBuilder b = new StringBuilder();
        int places = x.places();
        for (int p = 0; p < places; p++) {
            int i = x.at(p, w);
            b.append(i == NONE ? "-" : "" + i);
        }
        return b.toString();
    }

    static String out(WitnessBench x) {
        StringBuilder b = new StringBuilder();
        try {
            for (int k = 0; k < 3000; k++) {
                b.append((char) x.out(k));
            }
        } catch (IndexOutOfBoundsException e) {
            return b.toString();
        }
        return "endless";
    }

    static String out(WitnessBench x, int from, int to) {
        StringBuilder b = new StringBuilder();
        for (int k = from; k < to; k++) {
            b.append((char) x.out(k));
        }
        return b.toString();
    }

    static String built(WitnessBench x, int count) {
        StringBuilder b = new StringBuilder();
        for (int i = 0; i < count; i++) {
            b.append(i == 0 ? "" : " ");
            int k = 0;
            for (int c = x.built(i, k); c != NONE; c = x.built(i, k)) {
                b.append((char) c);
                k++;
            }
        }
        return b.toString();
    }

    /** The letters of a word's form, as an apparatus without a base writes them; rules are told as left>right. */
    static String formOf(String word, String... rules) {
        WitnessBench x = joined(word);
        for (String r : rules) {
            rule(x, r.substring(0, r.indexOf('>')), r.substring(r.indexOf('>') + 1));
        }
        x.base(NONE);
        int length = x.apparatus(true);
        return out(x, 5, length - 3);
    }

    static String found(WitnessBench x, int count) {
        StringBuilder b = new StringBuilder();
        for (int i = 0; i < count; i++) {
            b.append(i == 0 ? "" : " ").append(x.found(i));
        }
        return b.toString();
    }

    static String blocks(WitnessBench x, int count) {
        StringBuilder b = new StringBuilder();
        for (int k = 0; k < count; k++) {
            b.append(k == 0 ? "" : " ");
            b.append(x.block(k, 0)).append(',').append(x.block(k, 1)).append(',').append(x.block(k, 2));
        }
        return b.toString();
    }

    /** Puts a text into OUT of the same length as what stands there. */
    static void overwrite(WitnessBench x, String text) {
        dueText("length of OUT", "" + out(x).length(), "" + text.length());
        for (int k = 0; k < text.length(); k++) {
            x.amend(k, text.charAt(k));
        }
    }

    /** Words of six letters each, none of which has a letter of another: to match two costs 12. */
    static String far(char first, int words) {
        StringBuilder b = new StringBuilder();
        for (int k = 0; k < words; k++) {
            b.append(k == 0 ? "" : " ");
            for (int n = 0; n < 6; n++) {
                b.append((char) (first + k));
            }
        }
        return b.toString();
    }

    // How to see that a refused call changed nothing.

    /** A bench in which each kind of state holds something: witness 3 is not joined. */
    static WitnessBench busy() {
        WitnessBench x = bench("aa bb ? cc", "cc dd aa bb", "aa ? bb", "cc aa");
        rule(x, "d", "ee");
        rule(x, "zz", "");
        x.equate(0, 0, 3, 0);
        x.join(2);
        x.join(0);
        x.join(1);
        x.base(0);
        x.choose(1, 1);
        x.parent(1, 0);
        x.parent(2, 1);
        x.apparatus(false);
        x.rebuild(1);
        x.amend(0, '7');
        x.blocks(0, 1);
        draft(x, "cc");
        x.concord();
        draft(x, "bb");
        return x;
    }

    /** Calls that throw change nothing: a bench that had to refuse one is then the same as one that had not. */
    static void refused(String call, Class<?> want, Supplier<WitnessBench> maker, Consumer<WitnessBench> refusedCall) {
        WitnessBench asked = maker.get();
        dueThrow(call, want, () -> refusedCall.accept(asked));
        dueText("what is seen behind " + call, look(asked), look(maker.get()));
    }

    static void refused(String call, Class<?> want, Consumer<WitnessBench> refusedCall) {
        refused(call, want, TestTools::busy, refusedCall);
    }

    /** All that can be seen of a bench; what changes it is asked last. */
    static String look(WitnessBench x) {
        StringBuilder b = new StringBuilder();
        lookAtResults(x, b);
        lookAtPlaces(x, b);
        ask(b, "concord", () -> x.concord());
        lookAtRow(b, "found", k -> x.found(k));
        ask(b, "apparatus", () -> x.apparatus(false));
        lookAtRow(b, "out", k -> x.out(k));
        ask(b, "type", () -> x.type('z'));
        x.cut(0);
        for (int w = 0; w < 4; w++) {
            int witness = w;
            ask(b, "word", () -> x.word(witness));
        }
        ask(b, "equate", () -> x.equate(0, 0, 0, 0));
        x.type('q');
        ask(b, "rule", () -> x.rule(1));
        for (int k = 0; k < 4; k++) {
            ask(b, "retract", () -> x.retract());
            ask(b, "apparatus", () -> x.apparatus(true));
        }
        return b.toString();
    }

    private static void lookAtResults(WitnessBench x, StringBuilder b) {
        lookAtRow(b, "out", k -> x.out(k));
        lookAtRow(b, "found", k -> x.found(k));
        lookAtRow(b, "block", k -> 100 * x.block(k, 0) + 10 * x.block(k, 1) + x.block(k, 2));
        for (int k = 0; k < 10; k++) {
            int at = k;
            ask(b, "built", () -> x.built(at / 2, at % 2));
        }
    }

    private static void lookAtPlaces(WitnessBench x, StringBuilder b) {
        ask(b, "places", () -> x.places());
        for (int w = 0; w < 4; w++) {
            b.append(row(x, w)).append(' ');
            int witness = w;
            lookAtRow(b, "form", i -> x.form(witness, i));
        }
        lookAtRow(b, "distance", i -> x.distance(0, 0, 1, i));
        lookAtRow(b, "changes", p -> x.changes(p));
    }

    private static void lookAtRow(StringBuilder b, String name, IntUnaryOperator call) {
        for (int k = 0; k < 80; k++) {
            int at = k;
            if (!ask(b, k == 0 ? name : "", () -> call.applyAsInt(at))) {
                return;
            }
        }
    }

    private static boolean ask(StringBuilder b, String name, IntSupplier call) {
        b.append(name).append(' ');
        try {
            b.append(call.getAsInt()).append(' ');
            return true;
        } catch (RuntimeException e) {
            b.append(e.getClass().getSimpleName()).append(' ');
            return false;
        }
    }
}
