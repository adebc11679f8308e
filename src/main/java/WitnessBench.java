import java.util.Arrays;

/** A bench for editions of a text that several witnesses hand down; README.md says how to use it. */
public final class WitnessBench {
    public static final int NONE = -1;

    private static final int WITNESSES = 4;
    private static final int MOST_WORDS = 10;
    private static final int ALL_WORDS = WITNESSES * MOST_WORDS;
    private static final int MOST_LETTERS = 6;
    private static final int MOST_FORM = 12;
    private static final int MOST_DRAFT = 8;
    private static final int MOST_DRAFT_FORM = 16;
    private static final int MOST_RULES = 8;
    private static final int MOST_LEFT = 3;
    private static final int MOST_RIGHT = 2;
    private static final int MOST_EQUALITIES = 6;
    private static final int MOST_PLACES = 24;
    private static final int MOST_DISTANCE = 12;
    private static final int GAP_DISTANCE = 4;
    private static final int LONE_COST = 8;

    /** The longest entry has 80 characters: 2 + 1 + 12 + 1, four groups of 15, three ; and the character 10. */
    private static final int MOST_OUT = MOST_PLACES * 80;

    private static final int WITNESS_FACTOR = 100;
    private static final int FAULT_BASE = -100;

    private static final char NOTHING_SIGN = '-';
    private static final char GAP_SIGN = '?';
    private static final char EMPTY_SIGN = '.';
    private static final char END_SIGN = 10;

    private final Letters draft;
    private final Letters draftForm;
    private final Rules rules;
    private final Words words;
    private final Table table;
    private final Joiner joiner;
    private final Sheet sheet;
    private final Reader reader;
    private final int[] finds;
    private int findCount;
    private final BlockFinder blockFinder;
    private final Family family;

    public WitnessBench() {
        draft = new Letters(MOST_DRAFT);
        draftForm = new Letters(MOST_DRAFT_FORM);
        rules = new Rules();
        words = new Words();
        table = new Table();
        joiner = new Joiner();
        sheet = new Sheet();
        reader = new Reader();
        finds = new int[ALL_WORDS];
        blockFinder = new BlockFinder();
        family = new Family();
    }

    public int type(char c) throws IllegalArgumentException, IllegalStateException {
        if (c < 'a' || c > 'z') {
            throw new IllegalArgumentException("not a letter a .. z");
        }
        if (draft.size() >= MOST_DRAFT) {
            throw new IllegalStateException("the draft is full");
        }
        draft.add(c);
        return draft.size();
    }

    public void cut(int n) throws IllegalArgumentException {
        if (n < 0 || n > draft.size()) {
            throw new IllegalArgumentException("the draft has not so many letters");
        }
        draft.keep(n);
    }

    public int word(int w)
            throws IndexOutOfBoundsException, IllegalStateException, IllegalArgumentException,
            UnsupportedOperationException {
        checkWitness(w);
        if (table.isJoined(w)) {
            throw new IllegalStateException("the witness is joined");
        }
        if (draft.size() > MOST_LETTERS) {
            throw new IllegalArgumentException("the draft is too long for a word");
        }
        if (words.count(w) >= MOST_WORDS) {
            throw new UnsupportedOperationException("the witness is full");
        }
        words.add(w, draft, rules);
        draft.keep(0);
        return words.count(w);
    }

    public int rule(int n) throws IllegalArgumentException, UnsupportedOperationException {
        if (n < 1 || n > MOST_LEFT || draft.size() < n || draft.size() > n + MOST_RIGHT) {
            throw new IllegalArgumentException("the draft is no such rule");
        }
        if (rules.count() >= MOST_RULES) {
            throw new UnsupportedOperationException("no more rules");
        }
        rules.add(draft, n);
        words.formAll(rules);
        draft.keep(0);
        return rules.count();
    }

    public int equate(int w, int i, int v, int j)
            throws IndexOutOfBoundsException, IllegalArgumentException, UnsupportedOperationException {
        checkWord(w, i);
        checkWord(v, j);
        if (words.isGap(number(w, i)) || words.isGap(number(v, j))) {
            throw new IllegalArgumentException("a gap equals no word");
        }
        if (words.equalities() >= MOST_EQUALITIES) {
            throw new UnsupportedOperationException("no more equalities");
        }
        words.addEquality(number(w, i), number(v, j));
        return words.equalities();
    }

    public int form(int w, int i) throws IndexOutOfBoundsException {
        checkWord(w, i);
        return words.formOf(number(w, i)).size();
    }

    public int distance(int w, int i, int v, int j) throws IndexOutOfBoundsException {
        checkWord(w, i);
        checkWord(v, j);
        return words.apart(number(w, i), number(v, j));
    }

    public int join(int w)
            throws IndexOutOfBoundsException, IllegalStateException, UnsupportedOperationException {
        checkWitness(w);
        if (table.isJoined(w) || words.count(w) == 0) {
            throw new IllegalStateException("the witness is joined, or has no words");
        }
        int cost = joiner.plan(table, words, w);
        if (joiner.plannedPlaces() > MOST_PLACES) {
            throw new UnsupportedOperationException("too many places");
        }
        joiner.carryOut(table, w);
        return cost;
    }

    public int retract() throws IllegalStateException {
        int w = table.lastJoined();
        if (w == NONE) {
            throw new IllegalStateException("no witness is joined");
        }
        table.takeOut(w);
        return w;
    }

    public int places() {
        return table.count();
    }

    public int at(int place, int w) throws IndexOutOfBoundsException {
        checkPlace(place);
        checkWitness(w);
        return table.cell(place, w);
    }

    public int beside(int w, int i, int v) throws IndexOutOfBoundsException {
        checkWord(w, i);
        checkWitness(v);
        return table.neighbour(w, i, v);
    }

    public void base(int w) throws IndexOutOfBoundsException, IllegalStateException {
        if (w != NONE) {
            checkWitness(w);
            checkJoined(w);
        }
        table.rebase(w);
    }

    public void choose(int place, int w) throws IndexOutOfBoundsException, IllegalStateException {
        checkPlace(place);
        if (w != NONE) {
            checkWitness(w);
            checkJoined(w);
        }
        table.setChoice(place, w);
    }

    public int apparatus(boolean negative) {
        sheet.write(table, words, negative);
        return sheet.size();
    }

    public int out(int k) throws IndexOutOfBoundsException {
        checkSheet(k);
        return sheet.sign(k);
    }

    public void amend(int k, char c) throws IndexOutOfBoundsException {
        checkSheet(k);
        sheet.change(k, c);
    }

    public int rebuild(int w) throws IndexOutOfBoundsException, IllegalStateException {
        checkWitness(w);
        checkJoined(w);
        int fault = reader.read(sheet, table, words, w);
        return fault == NONE ? reader.builtCount() : FAULT_BASE - fault;
    }

    public int built(int i, int k) {
        return reader.builtLetter(i, k);
    }

    public int concord() {
        findCount = 0;
        rules.bring(draft, draftForm);
        int like = words.firstAlike(draftForm);
        if (like == NONE) {
            return 0;
        }
        for (int x = 0; x < ALL_WORDS; x++) {
            if (words.isThere(x) && words.areEqual(x, like)) {
                finds[findCount] = WITNESS_FACTOR * (x / MOST_WORDS) + x % MOST_WORDS;
                findCount++;
            }
        }
        return findCount;
    }

    public int found(int i) throws IndexOutOfBoundsException {
        if (i < 0 || i >= findCount) {
            throw new IndexOutOfBoundsException("not so many were found");
        }
        return finds[i];
    }

    public int blocks(int w, int v)
            throws IndexOutOfBoundsException, IllegalArgumentException, IllegalStateException {
        checkWitness(w);
        checkWitness(v);
        if (w == v) {
            throw new IllegalArgumentException("the witnesses are the same");
        }
        checkJoined(w);
        checkJoined(v);
        return blockFinder.find(table, words, w, v);
    }

    public int block(int k, int what) throws IndexOutOfBoundsException {
        if (k < 0 || k >= blockFinder.count() || what < 0 || what >= BlockFinder.FIELDS) {
            throw new IndexOutOfBoundsException("no such block");
        }
        return blockFinder.field(k, what);
    }

    public void parent(int w, int v) throws IndexOutOfBoundsException, IllegalStateException {
        checkWitness(w);
        if (v != NONE) {
            checkWitness(v);
            if (family.isAtOrBelow(v, w)) {
                throw new IllegalStateException("a witness above itself");
            }
        }
        family.setParent(w, v);
    }

    public int changes(int place) throws IndexOutOfBoundsException {
        if (place != NONE) {
            checkPlace(place);
            return family.leastChanges(table, words, place);
        }
        int sum = 0;
        for (int p = 0; p < table.count(); p++) {
            sum += family.leastChanges(table, words, p);
        }
        return sum;
    }

    private static void checkWitness(int w) {
        if (w < 0 || w >= WITNESSES) {
            throw new IndexOutOfBoundsException("no such witness");
        }
    }

    private void checkWord(int w, int i) {
        checkWitness(w);
        if (i < 0 || i >= words.count(w)) {
            throw new IndexOutOfBoundsException("no such word");
        }
    }

    private void checkPlace(int place) {
        if (place < 0 || place >= table.count()) {
            throw new IndexOutOfBoundsException("no such place");
        }
    }

    private void checkJoined(int w) {
        if (!table.isJoined(w)) {
            throw new IllegalStateException("the witness is not joined");
        }
    }

    private void checkSheet(int k) {
        if (k < 0 || k >= sheet.size()) {
            throw new IndexOutOfBoundsException("no such character");
        }
    }

    /** Word i of witness w as one number, so that words can stand in plain rows. */
    private static int number(int w, int i) {
        return w * MOST_WORDS + i;
    }

    /** A row of letters, or a gap; made once and filled again and again, to spare objects. */
    private static final class Letters {
        private final char[] row;
        private int length;

        Letters(int most) {
            row = new char[most];
        }

        int size() {
            return length;
        }

        boolean isGap() {
            return length == NONE;
        }

        char letter(int k) {
            return row[k];
        }

        void keep(int n) {
            length = n;
        }

        void add(char c) {
            if (length >= 0 && length < row.length) {
                row[length] = c;
                length++;
            }
        }

        void addPart(Letters other, int from, int to) {
            for (int k = from; k < to; k++) {
                add(other.row[k]);
            }
        }

        void become(Letters other) {
            length = 0;
            addPart(other, 0, other.length);
            if (other.isGap()) {
                becomeGap();
            }
        }

        /** A gap has its own length, so that it is never the same as a form without letters. */
        void becomeGap() {
            length = NONE;
        }

        boolean isSame(Letters other) {
            return length == other.length && standsIn(other, 0);
        }

        boolean standsIn(Letters other, int from) {
            if (from + length > other.length) {
                return false;
            }
            for (int k = 0; k < length; k++) {
                if (row[k] != other.row[from + k]) {
                    return false;
                }
            }
            return true;
        }
    }

    /** The rules, and the forms that they give. */
    private static final class Rules {
        private final Letters[] lefts;
        private final Letters[] rights;
        private int count;

        Rules() {
            lefts = new Letters[MOST_RULES];
            rights = new Letters[MOST_RULES];
            for (int r = 0; r < MOST_RULES; r++) {
                lefts[r] = new Letters(MOST_LEFT);
                rights[r] = new Letters(MOST_RIGHT);
            }
        }

        int count() {
            return count;
        }

        void add(Letters draft, int n) {
            lefts[count].addPart(draft, 0, n);
            rights[count].addPart(draft, n, draft.size());
            count++;
        }

        void bring(Letters letters, Letters form) {
            form.keep(0);
            int from = 0;
            for (int step = 0; step < letters.size() && from < letters.size(); step++) {
                int r = ruleFor(letters, from);
                if (r == NONE) {
                    form.add(letters.letter(from));
                    from++;
                } else {
                    form.addPart(rights[r], 0, rights[r].size());
                    from += lefts[r].size();
                }
            }
            if (letters.size() == 0) {
                form.becomeGap();
            }
        }

        private int ruleFor(Letters letters, int from) {
            int best = NONE;
            int longest = 0;
            for (int r = 0; r < count; r++) {
                if (lefts[r].size() > longest && lefts[r].standsIn(letters, from)) {
                    best = r;
                    longest = lefts[r].size();
                }
            }
            return best;
        }
    }

    /** The words of all witnesses, with their forms, and which of them are alike and equal. */
    private static final class Words {
        private final Letters[] spellings;
        private final Letters[] forms;
        private final int[] counts;
        /** For each word the first word that is alike with it. */
        private final int[] alikeMarks;
        /** For each word a number that it shares with just those that are equal to it. */
        private final int[] equalMarks;
        private final int[] equalFirsts;
        private final int[] equalSeconds;
        private int equalityCount;
        private final int[] editRow;

        Words() {
            spellings = new Letters[ALL_WORDS];
            forms = new Letters[ALL_WORDS];
            for (int x = 0; x < ALL_WORDS; x++) {
                spellings[x] = new Letters(MOST_LETTERS);
                forms[x] = new Letters(MOST_FORM);
            }
            counts = new int[WITNESSES];
            alikeMarks = new int[ALL_WORDS];
            equalMarks = new int[ALL_WORDS];
            equalFirsts = new int[MOST_EQUALITIES];
            equalSeconds = new int[MOST_EQUALITIES];
            editRow = new int[MOST_FORM + 1];
        }

        int count(int w) {
            return counts[w];
        }

        boolean isThere(int x) {
            return x % MOST_WORDS < counts[x / MOST_WORDS];
        }

        boolean isGap(int x) {
            return forms[x].isGap();
        }

        Letters formOf(int x) {
            return forms[x];
        }

        int equalities() {
            return equalityCount;
        }

        void add(int w, Letters draft, Rules rules) {
            int x = number(w, counts[w]);
            spellings[x].become(draft);
            counts[w]++;
            rules.bring(spellings[x], forms[x]);
            markAll();
        }

        void addEquality(int x, int y) {
            equalFirsts[equalityCount] = x;
            equalSeconds[equalityCount] = y;
            equalityCount++;
            makeEqual(x, y);
        }

        void formAll(Rules rules) {
            for (int x = 0; x < ALL_WORDS; x++) {
                if (isThere(x)) {
                    rules.bring(spellings[x], forms[x]);
                }
            }
            markAll();
        }

        int firstAlike(Letters form) {
            for (int x = 0; x < ALL_WORDS; x++) {
                if (isThere(x) && forms[x].isSame(form)) {
                    return x;
                }
            }
            return NONE;
        }

        /** Words here may be NONE, which is nothing, and alike with nothing alone. */
        boolean areAlike(int x, int y) {
            return x == NONE || y == NONE ? x == y : alikeMarks[x] == alikeMarks[y];
        }

        /** Words here may be NONE, which is nothing, and equal to nothing alone. */
        boolean areEqual(int x, int y) {
            return x == NONE || y == NONE ? x == y : equalMarks[x] == equalMarks[y];
        }

        int apart(int x, int y) {
            if (areEqual(x, y)) {
                return 0;
            }
            if (isGap(x) || isGap(y)) {
                return GAP_DISTANCE;
            }
            return Math.min(MOST_DISTANCE, 2 * edits(forms[x], forms[y]));
        }

        private void markAll() {
            for (int x = 0; x < ALL_WORDS; x++) {
                if (isThere(x)) {
                    alikeMarks[x] = firstAlike(forms[x]);
                    equalMarks[x] = alikeMarks[x];
                }
            }
            for (int e = 0; e < equalityCount; e++) {
                makeEqual(equalFirsts[e], equalSeconds[e]);
            }
        }

        private void makeEqual(int x, int y) {
            int from = equalMarks[x];
            int to = equalMarks[y];
            for (int z = 0; z < ALL_WORDS; z++) {
                if (isThere(z) && equalMarks[z] == from) {
                    equalMarks[z] = to;
                }
            }
        }

        private int edits(Letters a, Letters b) {
            for (int j = 0; j <= b.size(); j++) {
                editRow[j] = j;
            }
            for (int i = 1; i <= a.size(); i++) {
                int slant = editRow[0];
                editRow[0] = i;
                for (int j = 1; j <= b.size(); j++) {
                    int changed = slant + (a.letter(i - 1) == b.letter(j - 1) ? 0 : 1);
                    slant = editRow[j];
                    editRow[j] = Math.min(changed, Math.min(editRow[j], editRow[j - 1]) + 1);
                }
            }
            return editRow[b.size()];
        }
    }

    /** The places with the words there, the joined witnesses in the order of joining, and the text. */
    private static final class Table {
        private final int[] cells;
        private final int[] choices;
        private int placeCount;
        private final int[] joined;
        private int joinedCount;
        private int baseWitness;

        Table() {
            cells = new int[MOST_PLACES * WITNESSES];
            choices = new int[MOST_PLACES];
            joined = new int[WITNESSES];
            baseWitness = NONE;
        }

        int count() {
            return placeCount;
        }

        boolean isJoined(int w) {
            for (int k = 0; k < joinedCount; k++) {
                if (joined[k] == w) {
                    return true;
                }
            }
            return false;
        }

        int lastJoined() {
            return joinedCount == 0 ? NONE : joined[joinedCount - 1];
        }

        int cell(int place, int w) {
            return cells[place * WITNESSES + w];
        }

        int numberAt(int place, int w) {
            int i = cell(place, w);
            return i == NONE ? NONE : number(w, i);
        }

        int neighbour(int w, int i, int v) {
            for (int place = 0; place < placeCount; place++) {
                if (cell(place, w) == i) {
                    return cell(place, v);
                }
            }
            return NONE;
        }

        int lemma(int place) {
            int reader = choices[place] == NONE ? baseWitness : choices[place];
            return reader == NONE ? NONE : numberAt(place, reader);
        }

        void rebase(int w) {
            baseWitness = w;
            Arrays.fill(choices, NONE);
        }

        void setChoice(int place, int w) {
            choices[place] = w;
        }

        void clearPlace(int place) {
            for (int w = 0; w < WITNESSES; w++) {
                putCell(place, w, NONE);
            }
            choices[place] = NONE;
        }

        void copyPlace(int from, int to) {
            for (int w = 0; w < WITNESSES; w++) {
                putCell(to, w, cell(from, w));
            }
            choices[to] = choices[from];
        }

        void putCell(int place, int w, int i) {
            cells[place * WITNESSES + w] = i;
        }

        void admit(int w, int newCount) {
            if (joinedCount == 0) {
                baseWitness = w;
            }
            joined[joinedCount] = w;
            joinedCount++;
            placeCount = newCount;
        }

        void takeOut(int w) {
            joinedCount--;
            if (baseWitness == w) {
                baseWitness = NONE;
            }
            int kept = 0;
            for (int place = 0; place < placeCount; place++) {
                putCell(place, w, NONE);
                if (choices[place] == w) {
                    choices[place] = NONE;
                }
                if (hasWords(place)) {
                    copyPlace(place, kept);
                    kept++;
                }
            }
            placeCount = kept;
        }

        private boolean hasWords(int place) {
            for (int w = 0; w < WITNESSES; w++) {
                if (cell(place, w) != NONE) {
                    return true;
                }
            }
            return false;
        }
    }

    /** Finds the cheapest way to join a witness, and goes it. */
    private static final class Joiner {
        private static final int MATCH = 0;
        private static final int PASS = 1;
        private static final int PUT_IN = 2;
        private static final int COLUMNS = MOST_WORDS + 1;
        /** Dearer than every way to join. */
        private static final int FAR = 1000000;

        /** For each place and word: the least cost of what is left from there on, and the step to take. */
        private final int[] costs;
        private final int[] steps;
        private final int[] path;
        private int pathLength;
        private int oldPlaces;
        private int newWords;

        Joiner() {
            costs = new int[(MOST_PLACES + 1) * COLUMNS];
            steps = new int[(MOST_PLACES + 1) * COLUMNS];
            path = new int[MOST_PLACES + MOST_WORDS];
        }

        int plan(Table table, Words words, int w) {
            oldPlaces = table.count();
            newWords = words.count(w);
            for (int p = oldPlaces; p >= 0; p--) {
                for (int j = newWords; j >= 0; j--) {
                    boolean canMatch = p < oldPlaces && j < newWords;
                    settle(p, j, canMatch ? matchCost(table, words, p, number(w, j)) : NONE);
                }
            }
            layPath();
            return costs[0];
        }

        int plannedPlaces() {
            int count = oldPlaces;
            for (int k = 0; k < pathLength; k++) {
                if (path[k] == PUT_IN) {
                    count++;
                }
            }
            return count;
        }

        /** Goes the path from its end on, so that no place is written over before it was moved. */
        void carryOut(Table table, int w) {
            int newCount = plannedPlaces();
            int place = oldPlaces;
            int i = newWords;
            int target = newCount;
            for (int k = pathLength - 1; k >= 0; k--) {
                target--;
                if (path[k] == PUT_IN) {
                    table.clearPlace(target);
                } else {
                    place--;
                    table.copyPlace(place, target);
                }
                if (path[k] != PASS) {
                    i--;
                    table.putCell(target, w, i);
                }
            }
            table.admit(w, newCount);
        }

        private static int matchCost(Table table, Words words, int place, int x) {
            int least = MOST_DISTANCE;
            for (int v = 0; v < WITNESSES; v++) {
                int y = table.numberAt(place, v);
                if (y != NONE) {
                    least = Math.min(least, words.apart(x, y));
                }
            }
            return least;
        }

        /** Kinds of steps are offered in the order of preference: a later one must be cheaper to be taken. */
        private void settle(int p, int j, int matchCost) {
            int here = p * COLUMNS + j;
            costs[here] = p == oldPlaces && j == newWords ? 0 : FAR;
            if (matchCost != NONE) {
                offer(here, MATCH, matchCost + costs[here + COLUMNS + 1]);
            }
            if (p < oldPlaces) {
                offer(here, PASS, LONE_COST + costs[here + COLUMNS]);
            }
            if (j < newWords) {
                offer(here, PUT_IN, LONE_COST + costs[here + 1]);
            }
        }

        private void offer(int here, int step, int cost) {
            if (cost < costs[here]) {
                costs[here] = cost;
                steps[here] = step;
            }
        }

        private void layPath() {
            int p = 0;
            int j = 0;
            pathLength = 0;
            for (int k = 0; k < path.length && (p < oldPlaces || j < newWords); k++) {
                int step = steps[p * COLUMNS + j];
                path[k] = step;
                pathLength++;
                if (step != PUT_IN) {
                    p++;
                }
                if (step != PASS) {
                    j++;
                }
            }
        }
    }

    /** OUT, and how an apparatus is written there. */
    private static final class Sheet {
        private final char[] row;
        private int length;

        Sheet() {
            row = new char[MOST_OUT];
        }

        int size() {
            return length;
        }

        char sign(int k) {
            return row[k];
        }

        void change(int k, char c) {
            row[k] = c;
        }

        /** How many characters from a place on lie between two, but at most so many. */
        int run(int from, char low, char high, int most) {
            int n = 0;
            while (n < most && from + n < length && row[from + n] >= low && row[from + n] <= high) {
                n++;
            }
            return n;
        }

        void write(Table table, Words words, boolean negative) {
            length = 0;
            for (int place = 0; place < table.count(); place++) {
                if (needsEntry(table, words, place)) {
                    writeEntry(table, words, place, negative);
                }
            }
        }

        private static boolean needsEntry(Table table, Words words, int place) {
            int lemma = table.lemma(place);
            for (int w = 0; w < WITNESSES; w++) {
                if (table.isJoined(w) && !words.areAlike(table.numberAt(place, w), lemma)) {
                    return true;
                }
            }
            return false;
        }

        private void writeEntry(Table table, Words words, int place, boolean negative) {
            int lemma = table.lemma(place);
            putNumber(place);
            put(' ');
            putReading(words, lemma);
            put(']');
            boolean first = true;
            if (!negative && firstReader(table, words, place, lemma) != NONE) {
                putGroup(table, words, place, lemma);
                first = false;
            }
            for (int w = 0; w < WITNESSES; w++) {
                int x = table.numberAt(place, w);
                if (!words.areAlike(x, lemma) && firstReader(table, words, place, x) == w) {
                    if (!first) {
                        put(';');
                    }
                    putGroup(table, words, place, x);
                    first = false;
                }
            }
            put(END_SIGN);
        }

        private static int firstReader(Table table, Words words, int place, int x) {
            for (int w = 0; w < WITNESSES; w++) {
                if (table.isJoined(w) && words.areAlike(table.numberAt(place, w), x)) {
                    return w;
                }
            }
            return NONE;
        }

        private void putGroup(Table table, Words words, int place, int x) {
            put(' ');
            putReading(words, x);
            put(' ');
            for (int w = 0; w < WITNESSES; w++) {
                if (table.isJoined(w) && words.areAlike(table.numberAt(place, w), x)) {
                    put((char) ('A' + w));
                }
            }
        }

        private void putReading(Words words, int x) {
            if (x == NONE) {
                put(NOTHING_SIGN);
            } else if (words.isGap(x)) {
                put(GAP_SIGN);
            } else if (words.formOf(x).size() == 0) {
                put(EMPTY_SIGN);
            } else {
                putLetters(words.formOf(x));
            }
        }

        private void putLetters(Letters letters) {
            for (int k = 0; k < letters.size(); k++) {
                put(letters.letter(k));
            }
        }

        private void putNumber(int n) {
            if (n >= 10) {
                put((char) ('0' + n / 10));
            }
            put((char) ('0' + n % 10));
        }

        private void put(char c) {
            if (length < row.length) {
                row[length] = c;
                length++;
            }
        }
    }

    /**
     * Reads a sheet as an apparatus, and keeps what was built. Each reading step goes on only
     * behind a token that may stand there: so where it stops is where the fault is.
     */
    private static final class Reader {
        private static final int MOST_DIGITS = 2;

        private final Letters[] builtForms;
        private int builtFormCount;
        /** For each place where the reading stands that is sought; NONE where the lemma holds. */
        private final int[] readingPlaces;
        private int sought;
        private int next;
        private int place;
        private int seenWitnesses;

        Reader() {
            builtForms = new Letters[MOST_PLACES];
            for (int i = 0; i < MOST_PLACES; i++) {
                builtForms[i] = new Letters(MOST_FORM);
            }
            readingPlaces = new int[MOST_PLACES];
        }

        int builtCount() {
            return builtFormCount;
        }

        int builtLetter(int i, int k) {
            if (i < 0 || i >= builtFormCount) {
                return NONE;
            }
            Letters form = builtForms[i];
            if (form.isGap()) {
                return k == 0 ? GAP_SIGN : NONE;
            }
            return k >= 0 && k < form.size() ? form.letter(k) : NONE;
        }

        /** Answers where the fault is, or NONE if the sheet was right and the words of w are built. */
        int read(Sheet sheet, Table table, Words words, int w) {
            sought = w;
            next = 0;
            place = NONE;
            Arrays.fill(readingPlaces, NONE);
            for (int entry = 0; entry <= MOST_PLACES && next < sheet.size(); entry++) {
                if (!readEntry(sheet, table, words)) {
                    return next;
                }
            }
            buildAll(sheet, table, words);
            return NONE;
        }

        private boolean readEntry(Sheet sheet, Table table, Words words) {
            if (!readPlace(sheet, table) || !readSign(sheet, ' ')) {
                return false;
            }
            if (!readLemma(sheet, table, words) || !readSign(sheet, ']')) {
                return false;
            }
            seenWitnesses = 0;
            for (int group = 0; group <= WITNESSES; group++) {
                if (!readGroup(sheet, table)) {
                    return false;
                }
                if (readSign(sheet, END_SIGN)) {
                    return true;
                }
                if (!readSign(sheet, ';')) {
                    return false;
                }
            }
            return false;
        }

        private boolean readPlace(Sheet sheet, Table table) {
            int digits = sheet.run(next, '0', '9', MOST_DIGITS);
            if (digits == 0 || digits > 1 && sheet.sign(next) == '0') {
                return false;
            }
            int n = 0;
            for (int k = 0; k < digits; k++) {
                n = 10 * n + (sheet.sign(next + k) - '0');
            }
            if (n <= place || n >= table.count()) {
                return false;
            }
            place = n;
            next += digits;
            return true;
        }

        private boolean readSign(Sheet sheet, char c) {
            if (next >= sheet.size() || sheet.sign(next) != c) {
                return false;
            }
            next++;
            return true;
        }

        private boolean readLemma(Sheet sheet, Table table, Words words) {
            int lemma = table.lemma(place);
            if (lemma == NONE) {
                return readSign(sheet, NOTHING_SIGN);
            }
            if (words.isGap(lemma)) {
                return readSign(sheet, GAP_SIGN);
            }
            Letters form = words.formOf(lemma);
            return form.size() == 0 ? readSign(sheet, EMPTY_SIGN) : readLetters(sheet, form);
        }

        private boolean readLetters(Sheet sheet, Letters form) {
            int n = sheet.run(next, 'a', 'z', MOST_FORM);
            if (n != form.size()) {
                return false;
            }
            for (int k = 0; k < n; k++) {
                if (sheet.sign(next + k) != form.letter(k)) {
                    return false;
                }
            }
            next += n;
            return true;
        }

        private boolean readGroup(Sheet sheet, Table table) {
            if (!readSign(sheet, ' ')) {
                return false;
            }
            int readingAt = next;
            return readReading(sheet) && readSign(sheet, ' ') && readWitnesses(sheet, table, readingAt);
        }

        private boolean readReading(Sheet sheet) {
            int n = sheet.run(next, 'a', 'z', MOST_FORM);
            if (n == 0) {
                return readSign(sheet, NOTHING_SIGN) || readSign(sheet, GAP_SIGN) || readSign(sheet, EMPTY_SIGN);
            }
            next += n;
            return true;
        }

        private boolean readWitnesses(Sheet sheet, Table table, int readingAt) {
            int n = sheet.run(next, 'A', 'Z', WITNESSES);
            int before = NONE;
            int seenHere = 0;
            for (int k = 0; k < n; k++) {
                int w = sheet.sign(next + k) - 'A';
                if (w <= before || !table.isJoined(w) || (seenWitnesses >> w & 1) == 1) {
                    return false;
                }
                before = w;
                seenHere |= 1 << w;
            }
            seenWitnesses |= seenHere;
            if ((seenHere >> sought & 1) == 1) {
                readingPlaces[place] = readingAt;
            }
            next += n;
            return n > 0;
        }

        private void buildAll(Sheet sheet, Table table, Words words) {
            builtFormCount = 0;
            for (int p = 0; p < table.count(); p++) {
                int lemma = table.lemma(p);
                if (readingPlaces[p] != NONE) {
                    buildReading(sheet, readingPlaces[p]);
                } else if (lemma != NONE) {
                    builtForms[builtFormCount].become(words.formOf(lemma));
                    builtFormCount++;
                }
            }
        }

        private void buildReading(Sheet sheet, int from) {
            char c = sheet.sign(from);
            if (c == NOTHING_SIGN) {
                return;
            }
            Letters form = builtForms[builtFormCount];
            builtFormCount++;
            form.keep(0);
            int n = sheet.run(from, 'a', 'z', MOST_FORM);
            for (int k = 0; k < n; k++) {
                form.add(sheet.sign(from + k));
            }
            if (c == GAP_SIGN) {
                form.becomeGap();
            }
        }
    }

    /** Finds the blocks of two witnesses, and keeps the latest. */
    private static final class BlockFinder {
        private static final int FIELDS = 3;
        /** Blocks share no pair of words, and each has two pairs or more. */
        private static final int MOST_BLOCKS = MOST_WORDS * MOST_WORDS / 2;

        private final int[] fields;
        private int blockCount;

        BlockFinder() {
            fields = new int[MOST_BLOCKS * FIELDS];
        }

        int count() {
            return blockCount;
        }

        int field(int k, int what) {
            return fields[k * FIELDS + what];
        }

        int find(Table table, Words words, int w, int v) {
            blockCount = 0;
            for (int i = 0; i < words.count(w); i++) {
                for (int j = 0; j < words.count(v); j++) {
                    if (i == 0 || j == 0 || !isMoved(table, words, number(w, i - 1), number(v, j - 1))) {
                        keep(i, j, movedRun(table, words, number(w, i), number(v, j)));
                    }
                }
            }
            return blockCount;
        }

        private void keep(int i, int j, int n) {
            if (n >= 2 && blockCount < MOST_BLOCKS) {
                fields[blockCount * FIELDS] = i;
                fields[blockCount * FIELDS + 1] = j;
                fields[blockCount * FIELDS + 2] = n;
                blockCount++;
            }
        }

        private static int movedRun(Table table, Words words, int x, int y) {
            int most = MOST_WORDS - Math.max(x % MOST_WORDS, y % MOST_WORDS);
            int n = 0;
            while (n < most && isMoved(table, words, x + n, y + n)) {
                n++;
            }
            return n;
        }

        private static boolean isMoved(Table table, Words words, int x, int y) {
            if (!words.isThere(x) || !words.isThere(y) || words.isGap(x) || !words.areEqual(x, y)) {
                return false;
            }
            return table.neighbour(x / MOST_WORDS, x % MOST_WORDS, y / MOST_WORDS) != y % MOST_WORDS;
        }
    }

    /** Who is whose parent, and the changes along that. */
    private static final class Family {
        private static final int ANYTHING = -1;
        /** Dearer than all changes that there can be. */
        private static final int FAR = 100;

        private final int[] parents;
        /** For each witness the first one that reads the same, or ANYTHING. */
        private final int[] readings;
        /** For each witness and reading: the least changes below it, if it reads so. */
        private final int[] costs;

        Family() {
            parents = new int[WITNESSES];
            Arrays.fill(parents, NONE);
            readings = new int[WITNESSES];
            costs = new int[WITNESSES * WITNESSES];
        }

        void setParent(int w, int v) {
            parents[w] = v;
        }

        boolean isAtOrBelow(int low, int high) {
            int u = low;
            for (int step = 0; step < WITNESSES && u != NONE; step++) {
                if (u == high) {
                    return true;
                }
                u = parents[u];
            }
            return false;
        }

        int leastChanges(Table table, Words words, int place) {
            takeReadings(table, words, place);
            startCosts();
            int sum = 0;
            for (int depth = WITNESSES - 1; depth >= 0; depth--) {
                for (int w = 0; w < WITNESSES; w++) {
                    if (depthOf(w) == depth) {
                        sum += handUp(w);
                    }
                }
            }
            return sum;
        }

        private void takeReadings(Table table, Words words, int place) {
            for (int w = 0; w < WITNESSES; w++) {
                int x = table.numberAt(place, w);
                boolean free = !table.isJoined(w) || x != NONE && words.isGap(x);
                readings[w] = free ? ANYTHING : w;
                for (int v = 0; v < w && !free; v++) {
                    if (readings[v] == v && words.areEqual(table.numberAt(place, v), x)) {
                        readings[w] = v;
                    }
                }
            }
        }

        private void startCosts() {
            for (int w = 0; w < WITNESSES; w++) {
                for (int reading = 0; reading < WITNESSES; reading++) {
                    boolean may = readings[w] == ANYTHING || readings[w] == reading;
                    costs[w * WITNESSES + reading] = may ? 0 : FAR;
                }
            }
        }

        /** Adds the cost of a witness to its parent's; one without a parent answers it instead. */
        private int handUp(int w) {
            int least = leastCost(w);
            int v = parents[w];
            if (v == NONE) {
                return least;
            }
            for (int reading = 0; reading < WITNESSES; reading++) {
                costs[v * WITNESSES + reading] += Math.min(costs[w * WITNESSES + reading], least + 1);
            }
            return 0;
        }

        private int leastCost(int w) {
            int least = costs[w * WITNESSES];
            for (int reading = 1; reading < WITNESSES; reading++) {
                least = Math.min(least, costs[w * WITNESSES + reading]);
            }
            return least;
        }

        private int depthOf(int w) {
            int depth = 0;
            int u = parents[w];
            while (depth < WITNESSES && u != NONE) {
                depth++;
                u = parents[u];
            }
            return depth;
        }
    }
}
