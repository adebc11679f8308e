import java.util.ArrayDeque;
import java.util.ArrayList;
import java.util.Arrays;
import java.util.HashMap;
import java.util.HashSet;
import java.util.LinkedHashMap;
import java.util.List;
import java.util.Map;
import java.util.Set;
import java.util.regex.Matcher;
import java.util.regex.Pattern;

/** Many runs of calls by a fixed sequence, each answer compared with that of a plain model of the document. */
public final class RandomRunsTest {
    private static final int RUNS = 1000;
    private static final int CALLS = 512;
    private static final int MOST_TOLD = 20;

    private static int wrong = 0;
    private static long seed = 1;
    private static final Map<String, Integer> seen = new HashMap<>();

    private interface Answer {
        long get();
    }

    public static void main(String[] args) {
        long calls = 0;
        for (int run = 0; run < RUNS && wrong < MOST_TOLD; run++) {
            seed = run * 7919L + 13;
            calls += new Run(run).go();
        }
        demand("join", 4000);
        demand("join throws UnsupportedOperationException", 20);
        demand("rebuild right", 2000);
        demand("rebuild fault", 1000);
        demand("blocks found", 1000);
        demand("changes some", 1000);
        demand("concord found", 1000);
        System.out.println(RUNS + " runs, " + calls + " calls, " + wrong + " wrong");
        if (wrong > 0) {
            System.exit(1);
        }
    }

    /** So that the runs cannot become idle unseen. */
    private static void demand(String what, int least) {
        if (wrong < MOST_TOLD && seen.getOrDefault(what, 0) < least) {
            wrong++;
            System.out.println("too rare in these runs: " + what + ", " + seen.getOrDefault(what, 0));
        }
    }

    private static void note(String what) {
        seen.merge(what, 1, Integer::sum);
    }

    private static int random(int below) {
        seed = seed * 6364136223846793005L + 1442695040888963407L;
        return (int) ((seed >>> 33) % below);
    }

    /** One run: the bench and the model side by side. */
    private static final class Run {
        private final int number;
        private final WitnessBench bench = new WitnessBench();
        private final Model model = new Model();
        private final List<String> told = new ArrayList<>();
        private final int letters = 1 + random(4);
        private final int wordLength = 1 + random(6);
        private final int wide = random(5);
        private final int shift = 6 + random(3);
        private boolean failed = false;
        private int calls = 0;

        Run(int number) {
            this.number = number;
        }

        int go() {
            int perWitness = random(4) == 0 ? 10 : 1 + random(10);
            if (random(3) > 0) {
                for (int w = 0; w < 4 && !failed; w++) {
                    fill(w, perWitness);
                }
                for (int k = 0; k < 4; k++) {
                    int w = wide == 1 ? k : random(4);
                    call("join(" + w + ")", () -> bench.join(w), () -> model.join(w));
                }
            }
            while (calls < CALLS && !failed) {
                step();
            }
            return calls;
        }

        private void fill(int w, int perWitness) {
            for (int i = 0; i < perWitness && !failed && calls < CALLS - 20; i++) {
                draft(wide == 0 ? farWord() : wide == 1 ? farWord(w * shift + i) : someWord());
                call("word(" + w + ")", () -> bench.word(w), () -> model.word(w));
            }
        }

        private String farWord() {
            return farWord(random(26));
        }

        /** With these a witness begins with the last words of the one before, so that there come to be many places. */
        private String farWord(int k) {
            return ("" + (char) ('a' + k % 26)).repeat(6);
        }

        private String someWord() {
            if (random(12) == 0) {
                return "";
            }
            StringBuilder b = new StringBuilder();
            int n = 1 + random(wordLength);
            for (int k = 0; k < n; k++) {
                b.append((char) ('a' + random(letters)));
            }
            return b.toString();
        }

        private void draft(String s) {
            if (random(40) > 0) {
                call("cut(0)", () -> done(() -> bench.cut(0)), () -> model.cut(0));
            }
            for (char c : s.toCharArray()) {
                call("type(" + c + ")", () -> bench.type(c), () -> model.type(c));
            }
        }

        private static long done(Runnable r) {
            r.run();
            return 0;
        }

        private void call(String name, Answer got, Answer want) {
            if (failed || calls >= CALLS) {
                return;
            }
            calls++;
            String g = answer(got);
            String w = answer(want);
            told.add(name + " " + w);
            String plain = name.substring(0, name.indexOf('('));
            note(w.startsWith("throws") ? plain + " " + w : plain);
            if (!g.equals(w)) {
                failed = true;
                wrong++;
                System.out.println("run " + number + ": " + name + " answered " + g + ", due is " + w + " behind "
                        + String.join("; ", told));
            }
        }

        private static String answer(Answer a) {
            try {
                return "" + a.get();
            } catch (RuntimeException e) {
                return "throws " + e.getClass().getSimpleName();
            }
        }

        private int witness() {
            return random(30) == 0 ? random(9) - 3 : random(4);
        }

        private int witnessOrNone() {
            return random(4) == 0 ? -1 : witness();
        }

        private int wordOf(int w) {
            int n = w < 0 || w > 3 ? 3 : model.words.get(w).size();
            return random(30) == 0 ? random(14) - 2 : n == 0 ? 0 : random(n);
        }

        private int place() {
            return random(20) == 0 || model.places.isEmpty() ? random(28) - 2 : random(model.places.size());
        }

        private void step() {
            switch (random(24)) {
                case 0:
                    stepLetter();
                    break;
                case 1: {
                    int w = witness();
                    draft(wide == 0 && random(3) > 0 ? farWord() : someWord());
                    call("word(" + w + ")", () -> bench.word(w), () -> model.word(w));
                    break;
                }
                case 2:
                    stepRule();
                    break;
                case 3:
                    stepPair();
                    break;
                case 4: {
                    int w = witness();
                    int i = wordOf(w);
                    call("form(" + w + "," + i + ")", () -> bench.form(w, i), () -> model.form(w, i));
                    break;
                }
                case 5:
                case 6:
                case 7: {
                    int w = witness();
                    call("join(" + w + ")", () -> bench.join(w), () -> model.join(w));
                    call("places()", () -> bench.places(), () -> model.places());
                    break;
                }
                case 8:
                    if (random(2) == 0) {
                        call("retract()", () -> bench.retract(), () -> model.retract());
                    }
                    break;
                case 9:
                case 10:
                    stepLook();
                    break;
                case 11: {
                    int w = witnessOrNone();
                    call("base(" + w + ")", () -> done(() -> bench.base(w)), () -> model.base(w));
                    break;
                }
                case 12:
                case 13: {
                    int p = place();
                    int w = witnessOrNone();
                    call("choose(" + p + "," + w + ")", () -> done(() -> bench.choose(p, w)),
                            () -> model.choose(p, w));
                    break;
                }
                case 14:
                case 15:
                    stepApparatus();
                    break;
                case 16:
                case 17:
                    stepAmend();
                    break;
                case 18:
                    stepRebuild();
                    break;
                case 19:
                    stepConcord();
                    break;
                case 20:
                    stepBlocks();
                    break;
                case 21: {
                    int w = witness();
                    int v = witnessOrNone();
                    call("parent(" + w + "," + v + ")", () -> done(() -> bench.parent(w, v)),
                            () -> model.parent(w, v));
                    break;
                }
                default: {
                    int p = random(2) == 0 ? -1 : place();
                    call("changes(" + p + ")", () -> bench.changes(p), () -> model.changes(p));
                    if (told.get(told.size() - 1).matches(".* [1-9][0-9]*")) {
                        note("changes some");
                    }
                }
            }
        }

        private void stepLetter() {
            char c = random(20) == 0 ? (char) random(300) : (char) ('a' + random(26));
            call("type(" + (int) c + ")", () -> bench.type(c), () -> model.type(c));
            int n = random(10) - 1;
            call("cut(" + n + ")", () -> done(() -> bench.cut(n)), () -> model.cut(n));
        }

        private void stepRule() {
            if (random(2) == 0) {
                return;
            }
            draft(someWord());
            int n = random(5);
            call("rule(" + n + ")", () -> bench.rule(n), () -> model.rule(n));
        }

        private void stepPair() {
            int w = witness();
            int i = wordOf(w);
            int v = witness();
            int j = wordOf(v);
            String arguments = "(" + w + "," + i + "," + v + "," + j + ")";
            if (random(4) == 0) {
                call("equate" + arguments, () -> bench.equate(w, i, v, j), () -> model.equate(w, i, v, j));
            } else {
                call("distance" + arguments, () -> bench.distance(w, i, v, j), () -> model.distance(w, i, v, j));
            }
        }

        private void stepLook() {
            int w = witness();
            int v = witness();
            int i = wordOf(w);
            int p = place();
            call("at(" + p + "," + w + ")", () -> bench.at(p, w), () -> model.at(p, w));
            call("beside(" + w + "," + i + "," + v + ")", () -> bench.beside(w, i, v), () -> model.beside(w, i, v));
        }

        private void stepApparatus() {
            boolean negative = random(2) == 0;
            call("apparatus(" + negative + ")", () -> bench.apparatus(negative), () -> model.apparatus(negative));
            int n = model.out.length();
            int from = random(n + 1);
            for (int i = 0; i < 12 && from + i < n; i++) {
                stepOut(from + i);
            }
            stepOut(n + random(3) - 1);
        }

        private void stepOut(int k) {
            call("out(" + k + ")", () -> bench.out(k), () -> model.outAt(k));
        }

        private void stepAmend() {
            int n = model.out.length();
            if (n == 0) {
                stepApparatus();
                return;
            }
            int k = random(30) == 0 ? random(n + 4) - 2 : random(n);
            String pool = "0123 ];\n.?-abcABCD";
            char c = random(5) == 0 ? (char) random(128) : pool.charAt(random(pool.length()));
            boolean inside = k >= 0 && k < n;
            char old = inside ? model.out.charAt(k) : 0;
            call("amend(" + k + "," + (int) c + ")", () -> done(() -> bench.amend(k, c)), () -> model.amend(k, c));
            stepRebuild();
            if (inside && random(3) > 0) {
                call("amend(" + k + "," + (int) old + ")", () -> done(() -> bench.amend(k, old)),
                        () -> model.amend(k, old));
            }
        }

        private void stepRebuild() {
            int w = witness();
            call("rebuild(" + w + ")", () -> bench.rebuild(w), () -> model.rebuild(w));
            note(told.get(told.size() - 1).contains(" -1") ? "rebuild fault" : "rebuild right");
            for (int i = -1; i < 3; i++) {
                int form = random(Math.max(1, model.built.size() + 1));
                int k = i;
                call("built(" + form + "," + k + ")", () -> bench.built(form, k), () -> model.built(form, k));
            }
        }

        private void stepConcord() {
            draft(someWord());
            if (random(5) == 0) {
                call("type(a)", () -> bench.type('a'), () -> model.type('a'));
            }
            call("concord()", () -> bench.concord(), () -> model.concord());
            for (int i = 0; i <= model.found.size() && !failed; i++) {
                int k = i;
                call("found(" + k + ")", () -> bench.found(k), () -> model.found(k));
                note("concord found");
            }
        }

        private void stepBlocks() {
            int w = witness();
            int v = witness();
            call("blocks(" + w + "," + v + ")", () -> bench.blocks(w, v), () -> model.blocks(w, v));
            for (int i = 0; i < 3 * model.blocks.size() + 1 && i < 12; i++) {
                int k = i / 3;
                int what = i % 3;
                call("block(" + k + "," + what + ")", () -> bench.block(k, what), () -> model.block(k, what));
                note("blocks found");
            }
            int k = model.blocks.size() - random(2);
            int what = random(5) - 1;
            call("block(" + k + "," + what + ")", () -> bench.block(k, what), () -> model.block(k, what));
        }
    }

    /** The document, told with texts and lists, without a thought of speed. A gap's form is "?". */
    private static final class Model {
        private static final Pattern TOKEN = Pattern.compile("[0-9]{1,2}|[a-z]{1,12}|[A-Z]{1,4}|.", Pattern.DOTALL);

        private String draft = "";
        private final List<List<String>> words = new ArrayList<>();
        private final List<String[]> rules = new ArrayList<>();
        private final List<int[]> equalities = new ArrayList<>();
        private final List<Place> places = new ArrayList<>();
        private final List<Integer> joined = new ArrayList<>();
        private final int[] parents = {-1, -1, -1, -1};
        private int base = -1;
        private StringBuilder out = new StringBuilder();
        private List<String> built = new ArrayList<>();
        private List<Integer> found = new ArrayList<>();
        private List<int[]> blocks = new ArrayList<>();

        private static final class Place {
            private final int[] words = {-1, -1, -1, -1};
            private int choice = -1;
        }

        Model() {
            for (int w = 0; w < 4; w++) {
                words.add(new ArrayList<>());
            }
        }

        private static void index(boolean holds) {
            if (!holds) {
                throw new IndexOutOfBoundsException();
            }
        }

        private static void state(boolean holds) {
            if (!holds) {
                throw new IllegalStateException();
            }
        }

        private static void argument(boolean holds) {
            if (!holds) {
                throw new IllegalArgumentException();
            }
        }

        private static void supported(boolean holds) {
            if (!holds) {
                throw new UnsupportedOperationException();
            }
        }

        private void needWitness(int w) {
            index(w >= 0 && w <= 3);
        }

        private void needWord(int w, int i) {
            needWitness(w);
            index(i >= 0 && i < words.get(w).size());
        }

        private void needPlace(int p) {
            index(p >= 0 && p < places.size());
        }

        long type(char c) {
            argument(c >= 'a' && c <= 'z');
            state(draft.length() < 8);
            draft += c;
            return draft.length();
        }

        long cut(int n) {
            argument(n >= 0 && n <= draft.length());
            draft = draft.substring(0, n);
            return 0;
        }

        long word(int w) {
            needWitness(w);
            state(!joined.contains(w));
            argument(draft.length() <= 6);
            supported(words.get(w).size() < 10);
            words.get(w).add(draft);
            draft = "";
            return words.get(w).size();
        }

        long rule(int n) {
            argument(n >= 1 && n <= 3 && draft.length() >= n && draft.length() <= n + 2);
            supported(rules.size() < 8);
            rules.add(new String[] {draft.substring(0, n), draft.substring(n)});
            draft = "";
            return rules.size();
        }

        private String formOf(String word) {
            if (word.isEmpty()) {
                return "?";
            }
            String form = "";
            String rest = word;
            while (!rest.isEmpty()) {
                String[] best = {rest.substring(0, 1), rest.substring(0, 1)};
                boolean any = false;
                for (String[] r : rules) {
                    if (rest.startsWith(r[0]) && (!any || r[0].length() > best[0].length())) {
                        best = r;
                        any = true;
                    }
                }
                form += best[1];
                rest = rest.substring(best[0].length());
            }
            return form;
        }

        private String formOf(int w, int i) {
            return formOf(words.get(w).get(i));
        }

        /** All words, as 10 * witness + word, to which a chain leads from words with a form. */
        private Set<Integer> chain(String form) {
            Set<Integer> reached = new HashSet<>();
            ArrayDeque<Integer> todo = new ArrayDeque<>();
            reach(form, reached, todo);
            while (!todo.isEmpty()) {
                int x = todo.remove();
                reach(formOf(x / 10, x % 10), reached, todo);
                for (int[] e : equalities) {
                    for (int side = 0; side < 2; side++) {
                        if (e[side] == x && reached.add(e[1 - side])) {
                            todo.add(e[1 - side]);
                        }
                    }
                }
            }
            return reached;
        }

        private void reach(String form, Set<Integer> reached, ArrayDeque<Integer> todo) {
            for (int w = 0; w < 4; w++) {
                for (int i = 0; i < words.get(w).size(); i++) {
                    if (formOf(w, i).equals(form) && reached.add(10 * w + i)) {
                        todo.add(10 * w + i);
                    }
                }
            }
        }

        private boolean equal(int w, int i, int v, int j) {
            return chain(formOf(w, i)).contains(10 * v + j);
        }

        long equate(int w, int i, int v, int j) {
            needWord(w, i);
            needWord(v, j);
            argument(!words.get(w).get(i).isEmpty() && !words.get(v).get(j).isEmpty());
            supported(equalities.size() < 6);
            equalities.add(new int[] {10 * w + i, 10 * v + j});
            return equalities.size();
        }

        long form(int w, int i) {
            needWord(w, i);
            return words.get(w).get(i).isEmpty() ? -1 : formOf(w, i).length();
        }

        long distance(int w, int i, int v, int j) {
            needWord(w, i);
            needWord(v, j);
            if (equal(w, i, v, j)) {
                return 0;
            }
            String a = formOf(w, i);
            String b = formOf(v, j);
            if (a.equals("?") || b.equals("?")) {
                return 4;
            }
            return Math.min(12, 2 * edits(a, b, new HashMap<>()));
        }

        private static int edits(String a, String b, Map<String, Integer> known) {
            if (a.isEmpty() || b.isEmpty()) {
                return a.length() + b.length();
            }
            String key = a + "/" + b;
            Integer old = known.get(key);
            if (old != null) {
                return old;
            }
            int changed = edits(a.substring(1), b.substring(1), known) + (a.charAt(0) == b.charAt(0) ? 0 : 1);
            int left = edits(a.substring(1), b, known) + 1;
            int put = edits(a, b.substring(1), known) + 1;
            int least = Math.min(changed, Math.min(left, put));
            known.put(key, least);
            return least;
        }

        /** Ways to join as texts: the cost in three digits, then steps: 0 match, 1 pass, 2 put in. The least is best. */
        private String bestWay(int[][] matchCosts, int p, int j, String[][] known) {
            int most = matchCosts.length;
            int all = matchCosts.length == 0 ? known[0].length - 1 : matchCosts[0].length;
            if (p == most && j == all) {
                return "000";
            }
            if (known[p][j] == null) {
                List<String> ways = new ArrayList<>();
                if (p < most && j < all) {
                    ways.add(lengthen('0', matchCosts[p][j], bestWay(matchCosts, p + 1, j + 1, known)));
                }
                if (p < most) {
                    ways.add(lengthen('1', 8, bestWay(matchCosts, p + 1, j, known)));
                }
                if (j < all) {
                    ways.add(lengthen('2', 8, bestWay(matchCosts, p, j + 1, known)));
                }
                known[p][j] = ways.stream().min(String::compareTo).get();
            }
            return known[p][j];
        }

        private static String lengthen(char step, int cost, String rest) {
            int sum = cost + Integer.parseInt(rest.substring(0, 3));
            return String.format("%03d", sum) + step + rest.substring(3);
        }

        long join(int w) {
            needWitness(w);
            int n = words.get(w).size();
            state(!joined.contains(w) && n > 0);
            int[][] matchCosts = new int[places.size()][n];
            for (int p = 0; p < places.size(); p++) {
                for (int j = 0; j < n; j++) {
                    matchCosts[p][j] = matchCost(places.get(p), w, j);
                }
            }
            String way = bestWay(matchCosts, 0, 0, new String[places.size() + 1][n + 1]);
            List<Place> after = new ArrayList<>();
            int p = 0;
            int j = 0;
            for (char step : way.substring(3).toCharArray()) {
                Place place = step == '2' ? new Place() : places.get(p++);
                after.add(place);
                if (step != '1') {
                    j++;
                }
            }
            supported(after.size() <= 24);
            j = 0;
            for (int k = 3; k < way.length(); k++) {
                if (way.charAt(k) != '1') {
                    after.get(k - 3).words[w] = j++;
                }
            }
            places.clear();
            places.addAll(after);
            if (joined.isEmpty()) {
                base = w;
            }
            joined.add(w);
            return Integer.parseInt(way.substring(0, 3));
        }

        private int matchCost(Place place, int w, int j) {
            int least = 99;
            for (int v = 0; v < 4; v++) {
                if (place.words[v] >= 0) {
                    least = (int) Math.min(least, distance(w, j, v, place.words[v]));
                }
            }
            return least;
        }

        long retract() {
            state(!joined.isEmpty());
            int w = joined.remove(joined.size() - 1);
            for (Place p : places) {
                p.words[w] = -1;
                p.choice = p.choice == w ? -1 : p.choice;
            }
            places.removeIf(p -> Arrays.stream(p.words).allMatch(i -> i < 0));
            base = base == w ? -1 : base;
            return w;
        }

        long places() {
            return places.size();
        }

        long at(int p, int w) {
            needPlace(p);
            needWitness(w);
            return places.get(p).words[w];
        }

        long beside(int w, int i, int v) {
            needWord(w, i);
            needWitness(v);
            for (Place p : places) {
                if (p.words[w] == i) {
                    return p.words[v];
                }
            }
            return -1;
        }

        long base(int w) {
            index(w >= -1 && w <= 3);
            state(w == -1 || joined.contains(w));
            base = w;
            for (Place p : places) {
                p.choice = -1;
            }
            return 0;
        }

        long choose(int p, int w) {
            needPlace(p);
            index(w >= -1 && w <= 3);
            state(w == -1 || joined.contains(w));
            places.get(p).choice = w;
            return 0;
        }

        private String reading(Place p, int w) {
            if (w < 0 || p.words[w] < 0) {
                return "-";
            }
            String form = formOf(w, p.words[w]);
            return form.isEmpty() ? "." : form;
        }

        private String lemma(Place p) {
            return reading(p, p.choice >= 0 ? p.choice : base);
        }

        long apparatus(boolean negative) {
            out = new StringBuilder();
            for (int k = 0; k < places.size(); k++) {
                Place p = places.get(k);
                String lemma = lemma(p);
                Map<String, String> groups = new LinkedHashMap<>();
                groups.put(lemma, "");
                for (int w = 0; w < 4; w++) {
                    if (joined.contains(w)) {
                        groups.merge(reading(p, w), "" + (char) ('A' + w), String::concat);
                    }
                }
                if (groups.size() == 1) {
                    continue;
                }
                if (negative || groups.get(lemma).isEmpty()) {
                    groups.remove(lemma);
                }
                List<String> texts = new ArrayList<>();
                groups.forEach((reading, who) -> texts.add(" " + reading + " " + who));
                out.append(k).append(' ').append(lemma).append(']').append(String.join(";", texts)).append('\n');
            }
            return out.length();
        }

        long outAt(int k) {
            index(k >= 0 && k < out.length());
            return out.charAt(k);
        }

        long amend(int k, char c) {
            index(k >= 0 && k < out.length());
            out.setCharAt(k, c);
            return 0;
        }

        /**
         * The state says what must come: 0 place, 1 space, 2 lemma, 3 ], 4 space, 5 reading, 6 space, 7 witnesses,
         * 8 ; or the end of the entry.
         */
        long rebuild(int w) {
            needWitness(w);
            state(joined.contains(w));
            String[] readings = new String[places.size()];
            int state = 0;
            int place = -1;
            String reading = "";
            String inEntry = "";
            Matcher m = TOKEN.matcher(out);
            int at = 0;
            while (at < out.length()) {
                m.find(at);
                String t = m.group();
                boolean fine;
                switch (state) {
                    case 0:
                        fine = t.matches("0|[1-9][0-9]?") && Integer.parseInt(t) > place
                                && Integer.parseInt(t) < places.size();
                        place = fine ? Integer.parseInt(t) : place;
                        inEntry = "";
                        break;
                    case 2:
                        fine = t.equals(lemma(places.get(place)));
                        break;
                    case 3:
                        fine = t.equals("]");
                        break;
                    case 5:
                        fine = t.matches("[a-z]+|[-?.]");
                        reading = t;
                        break;
                    case 7:
                        fine = t.matches("A?B?C?D?") && rightWitnesses(t, inEntry);
                        inEntry += t;
                        if (fine && t.indexOf('A' + w) >= 0) {
                            readings[place] = reading;
                        }
                        break;
                    case 8:
                        fine = t.equals(";") || t.equals("\n");
                        break;
                    default:
                        fine = t.equals(" ");
                }
                if (!fine) {
                    return -100 - at;
                }
                state = state < 8 ? state + 1 : t.equals(";") ? 4 : 0;
                at += t.length();
            }
            if (state != 0) {
                return -100 - at;
            }
            built = new ArrayList<>();
            for (int p = 0; p < places.size(); p++) {
                String form = readings[p] == null ? lemma(places.get(p)) : readings[p];
                if (!form.equals("-")) {
                    built.add(form);
                }
            }
            return built.size();
        }

        private boolean rightWitnesses(String t, String inEntry) {
            for (char c : t.toCharArray()) {
                if (!joined.contains(c - 'A') || inEntry.indexOf(c) >= 0) {
                    return false;
                }
            }
            return true;
        }

        long built(int i, int k) {
            if (i < 0 || i >= built.size() || built.get(i).equals(".") || k < 0 || k >= built.get(i).length()) {
                return -1;
            }
            return built.get(i).charAt(k);
        }

        long concord() {
            found = new ArrayList<>();
            Set<Integer> reached = chain(formOf(draft));
            for (int x = 0; x < 40; x++) {
                if (reached.contains(x)) {
                    found.add(x / 10 * 100 + x % 10);
                }
            }
            return found.size();
        }

        long found(int i) {
            index(i >= 0 && i < found.size());
            return found.get(i);
        }

        private boolean moved(int w, int i, int v, int j) {
            if (i < 0 || j < 0 || i >= words.get(w).size() || j >= words.get(v).size()) {
                return false;
            }
            return !words.get(w).get(i).isEmpty() && equal(w, i, v, j) && beside(w, i, v) != j;
        }

        long blocks(int w, int v) {
            needWitness(w);
            needWitness(v);
            argument(w != v);
            state(joined.contains(w) && joined.contains(v));
            blocks = new ArrayList<>();
            for (int i = 0; i < 10; i++) {
                for (int j = 0; j < 10; j++) {
                    int n = 0;
                    while (moved(w, i + n, v, j + n)) {
                        n++;
                    }
                    if (n >= 2 && !moved(w, i - 1, v, j - 1)) {
                        blocks.add(new int[] {i, j, n});
                    }
                }
            }
            return blocks.size();
        }

        long block(int k, int what) {
            index(k >= 0 && k < blocks.size() && what >= 0 && what <= 2);
            return blocks.get(k)[what];
        }

        long parent(int w, int v) {
            needWitness(w);
            index(v >= -1 && v <= 3);
            for (int u = v; u >= 0; u = parents[u]) {
                state(u != w);
            }
            parents[w] = v;
            return 0;
        }

        /** Tries all readings: those of the four witnesses, for each that may read anything. */
        long changes(int place) {
            if (place == -1) {
                long sum = 0;
                for (int p = 0; p < places.size(); p++) {
                    sum += changes(p);
                }
                return sum;
            }
            needPlace(place);
            Place p = places.get(place);
            int[] kinds = new int[4];
            for (int w = 0; w < 4; w++) {
                kinds[w] = w;
                for (int v = w - 1; v >= 0; v--) {
                    if (sameThere(p, w, v)) {
                        kinds[w] = v;
                    }
                }
            }
            long least = 99;
            for (int code = 0; code < 256; code++) {
                int[] reads = new int[4];
                int count = 0;
                for (int w = 0; w < 4; w++) {
                    reads[w] = free(p, w) ? code >> 2 * w & 3 : kinds[w];
                }
                for (int w = 0; w < 4; w++) {
                    count += parents[w] >= 0 && reads[w] != reads[parents[w]] ? 1 : 0;
                }
                least = Math.min(least, count);
            }
            return least;
        }

        private boolean free(Place p, int w) {
            return !joined.contains(w) || p.words[w] >= 0 && words.get(w).get(p.words[w]).isEmpty();
        }

        private boolean sameThere(Place p, int w, int v) {
            if (free(p, w) || free(p, v)) {
                return false;
            }
            if (p.words[w] < 0 || p.words[v] < 0) {
                return p.words[w] == p.words[v];
            }
            return equal(w, p.words[w], v, p.words[v]);
        }
    }
}
