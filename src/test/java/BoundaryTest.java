import java.util.function.Consumer;

/** Each sentence of the document's promises 1 to 26 that names a boundary case has a test of its own here. */
public final class BoundaryTest extends TestTools {
    /** No witness has such a number; -1 stands apart, as it is NONE for some methods. */
    private static final int[] NO_WITNESS = {FAR_BELOW, -2, 4, 5, FAR_OFF};

    public static void main(String[] args) throws IllegalAccessException {
        runAll(BoundaryTest.class);
    }

    private interface NumberedCall {
        void run(WitnessBench x, int number);
    }

    private static void refusedForAll(String call, Class<?> want, int[] numbers, NumberedCall refusedCall) {
        for (int n : numbers) {
            refused(call + " of " + n, want, x -> refusedCall.run(x, n));
        }
    }

    private static void draftOf(WitnessBench x, int letters) {
        draft(x, "cccccccc".substring(0, letters));
    }

    // Benches at their limits, each with witnesses of their own.

    private static WitnessBench withDraft(int letters) {
        WitnessBench x = busy();
        draftOf(x, letters);
        return x;
    }

    private static WitnessBench withTenWords() {
        WitnessBench x = busy();
        for (int n = 3; n <= 10; n++) {
            draft(x, "q");
            x.word(3);
        }
        draft(x, "bb");
        return x;
    }

    private static WitnessBench withEightRules() {
        WitnessBench x = busy();
        for (int n = 3; n <= 8; n++) {
            draft(x, "z");
            x.rule(1);
        }
        draft(x, "bb");
        return x;
    }

    private static WitnessBench withSixEqualities() {
        WitnessBench x = busy();
        for (int e = 2; e <= 6; e++) {
            x.equate(0, 1, 1, 3);
        }
        return x;
    }

    /** Ten words each of A and B share three places, and seven of B and C: 24 places. */
    private static WitnessBench withAllPlaces(String wordsOfD) {
        WitnessBench x = new WitnessBench();
        String[] witnesses = {far('a', 10), far('h', 10), far('o', 10), wordsOfD};
        for (int w = 0; w < 4; w++) {
            typeWords(x, w, witnesses[w]);
        }
        for (int w = 0; w < 3; w++) {
            x.join(w);
        }
        return x;
    }

    /** Spares the call of cut, for benches with many words. */
    private static void typeWords(WitnessBench x, int w, String words) {
        for (String word : words.split(" ")) {
            for (char c : word.replace("?", "").toCharArray()) {
                x.type(c);
            }
            x.word(w);
        }
    }

    // Promise 1.

    private static void newWithoutWords() {
        sentence("1 new", "No words");
        for (int w = 0; w < 4; w++) {
            WitnessBench x = new WitnessBench();
            int witness = w;
            dueThrow("form", INDEX, () -> x.form(witness, 0));
            dueThrow("distance", INDEX, () -> x.distance(witness, 0, witness, 0));
            dueThrow("beside", INDEX, () -> x.beside(witness, 0, witness));
            dueThrow("equate", INDEX, () -> x.equate(witness, 0, witness, 0));
            dueThrow("join", STATE, () -> x.join(witness));
            due("gaps", x.concord(), 0);
            due("the first word", x.word(w), 1);
        }
    }

    private static void newWithoutRules() {
        sentence("1 new", "rules");
        WitnessBench x = bench("abcdef");
        due("as typed", x.form(0, 0), 6);
        draft(x, "a");
        due("the first rule", x.rule(1), 1);
    }

    private static void newWithoutEqualities() {
        sentence("1 new", "equalities");
        WitnessBench x = bench("a b", "c");
        due("a b", x.distance(0, 0, 0, 1), 2);
        due("a c", x.distance(0, 0, 1, 0), 2);
        due("the first equality", x.equate(0, 0, 0, 1), 1);
    }

    private static void newWithoutPlaces() {
        sentence("1 new", "places");
        WitnessBench x = new WitnessBench();
        due("places", x.places(), 0);
        dueThrow("at", INDEX, () -> x.at(0, 0));
        dueThrow("changes", INDEX, () -> x.changes(0));
        dueThrow("choose", INDEX, () -> x.choose(0, NONE));
        dueThrow("retract", STATE, () -> x.retract());
        due("changes of all", x.changes(NONE), 0);
        due("apparatus", x.apparatus(false), 0);
    }

    private static void newWithoutParents() {
        sentence("1 new", "parents");
        for (int w = 0; w < 4; w++) {
            for (int v = 0; v < 4; v++) {
                if (w != v) {
                    WitnessBench x = joined("a", "b", "c", "d");
                    due("no changes", x.changes(NONE), 0);
                    x.parent(w, v);
                    due("any parent may come", x.changes(NONE), 1);
                }
            }
        }
    }

    private static void newWithoutBase() {
        sentence("1 new", "no base");
        WitnessBench x = bench("a", "b");
        dueThrow("none is joined", STATE, () -> x.base(0));
        x.base(NONE);
        x.join(1);
        x.apparatus(true);
        due("the first that is joined becomes it", x.apparatus(true), 0);
    }

    private static void newAndEmpty() {
        sentence("1 new", "the draft, OUT, what was found, built, and blocks are empty.");
        WitnessBench x = new WitnessBench();
        dueThrow("cut", ARGUMENT, () -> x.cut(1));
        dueThrow("out", INDEX, () -> x.out(0));
        dueThrow("amend", INDEX, () -> x.amend(0, 'a'));
        dueThrow("found", INDEX, () -> x.found(0));
        due("built", x.built(0, 0), NONE);
        for (int what = 0; what < 3; what++) {
            int field = what;
            dueThrow("block", INDEX, () -> x.block(0, field));
        }
        due("the first letter", x.type('a'), 1);
    }

    private static void newBesideOthers() {
        sentence("1 new", "A new object");
        WitnessBench first = busy();
        String before = look(busy());
        WitnessBench second = new WitnessBench();
        due("it shares no words", second.word(0), 1);
        due("it shares no draft", second.type('x'), 1);
        due("it shares no places", second.places(), 0);
        second.join(0);
        second.parent(0, 1);
        second.apparatus(false);
        second.rebuild(0);
        second.concord();
        dueText("the other one is as it was", look(first), before);
    }

    // Promise 2.

    private static void typeAnswersLength() {
        sentence("2 type", "One more letter of the draft: how many it has.");
        for (char c = 'a'; c <= 'z'; c++) {
            WitnessBench x = new WitnessBench();
            for (int n = 1; n <= 8; n++) {
                due("letter " + c, x.type(c), n);
            }
        }
        dueText("the letters are the word's, in their order", formOf("azbycx"), "azbycx");
    }

    private static void typeOtherCharacters() {
        sentence("2 type", "IllegalArgumentException: c is not a .. z");
        int[] others = {0, 9, 10, ' ', '0', '9', '?', '@', 'A', 'Z', '`', '{', 127, 128, 223, 228, 255, 256 + 'a',
            65535};
        refusedForAll("type", ARGUMENT, others, (x, c) -> x.type((char) c));
    }

    private static void typeNinthLetter() {
        sentence("2 type", "IllegalStateException: it has 8.");
        due("an eighth", withDraft(7).type('a'), 8);
        refused("a ninth", STATE, () -> withDraft(8), x -> x.type('a'));
        refused("a ninth, z", STATE, () -> withDraft(8), x -> x.type('z'));
        WitnessBench x = withDraft(8);
        x.cut(7);
        due("an eighth again", x.type('a'), 8);
        dueThrow("a ninth again", STATE, () -> x.type('a'));
    }

    // Promise 3.

    private static void cutKeepsTheFirst() {
        sentence("3 cut", "The draft keeps its first n letters.");
        for (int n = 0; n <= 6; n++) {
            WitnessBench x = bench();
            draft(x, "abcdefgh");
            x.cut(n);
            x.word(0);
            x.join(0);
            x.base(NONE);
            int length = x.apparatus(true);
            dueText("the first " + n, out(x, 5, length - 3), n == 0 ? "?" : "abcdef".substring(0, n));
        }
        WitnessBench y = new WitnessBench();
        y.cut(0);
        draftOf(y, 8);
        y.cut(8);
        dueThrow("all eight were kept", STATE, () -> y.type('a'));
        y.cut(7);
        due("seven were kept", y.type('a'), 8);
        y.cut(0);
        due("none was kept", y.type('a'), 1);
    }

    private static void cutBelowNone() {
        sentence("3 cut", "IllegalArgumentException: n is below 0");
        refusedForAll("cut", ARGUMENT, new int[] {-1, -2, FAR_BELOW}, (x, n) -> x.cut(n));
    }

    private static void cutTooMany() {
        sentence("3 cut", "or it has not so many.");
        refusedForAll("cut", ARGUMENT, new int[] {3, 8, 9, FAR_OFF}, (x, n) -> x.cut(n));
        for (int letters = 0; letters <= 8; letters++) {
            WitnessBench x = withDraft(letters);
            int more = letters + 1;
            dueThrow("one more than there are", ARGUMENT, () -> x.cut(more));
            x.cut(letters);
        }
    }

    // Promise 4.

    private static void wordOfTheDraft() {
        sentence("4 word", "The draft becomes one more word of witness w, and is empty then: how many words w has.");
        for (int w = 0; w < 4; w++) {
            WitnessBench x = new WitnessBench();
            for (int letters = 0; letters <= 6; letters++) {
                draftOf(x, letters);
                due("word of " + letters, x.word(w), letters + 1);
                due("its length", x.form(w, letters), letters == 0 ? NONE : letters);
                due("the draft is empty then", x.type('c'), 1);
            }
        }
        WitnessBench y = bench("a", "b");
        due("a gap", y.word(0), 2);
        due("a gap again", y.word(0), 3);
        due("the other witness", y.word(1), 2);
    }

    private static void wordOfNoWitness() {
        sentence("4 word", "IndexOutOfBoundsException; (no such witness)");
        refusedForAll("word", INDEX, NO_WITNESS, (x, w) -> x.word(w));
        refused("word(-1)", INDEX, x -> x.word(-1));
        refused("word(4), too long", INDEX, () -> withDraft(7), x -> x.word(4));
    }

    private static void wordOfAJoined() {
        sentence("4 word", "IllegalStateException: w is joined");
        refusedForAll("word", STATE, new int[] {0, 1, 2}, (x, w) -> x.word(w));
        due("one that is not joined", busy().word(3), 3);
        refused("joined, too long", STATE, () -> withDraft(8), x -> x.word(1));
        WitnessBench full = bench("a a a a a a a a a a");
        full.join(0);
        dueThrow("joined, full", STATE, () -> full.word(0));
        full.retract();
        dueThrow("full", UNSUPPORTED, () -> full.word(0));
        WitnessBench x = busy();
        x.retract();
        due("joined no more", x.word(1), 5);
    }

    private static void wordTooLong() {
        sentence("4 word", "IllegalArgumentException: the draft has more than six letters");
        due("six", withDraft(6).word(3), 3);
        refused("seven", ARGUMENT, () -> withDraft(7), x -> x.word(3));
        refused("eight", ARGUMENT, () -> withDraft(8), x -> x.word(3));
        WitnessBench full = withTenWords();
        draftOf(full, 7);
        dueThrow("seven, and full", ARGUMENT, () -> full.word(3));
    }

    private static void wordEleventh() {
        sentence("4 word", "UnsupportedOperationException: w has 10 words.");
        WitnessBench x = new WitnessBench();
        for (int n = 1; n <= 10; n++) {
            due("gap " + n, x.word(2), n);
        }
        dueThrow("an eleventh", UNSUPPORTED, () -> x.word(2));
        due("another witness", x.word(1), 1);
        refused("an eleventh", UNSUPPORTED, BoundaryTest::withTenWords, y -> y.word(3));
    }

    // Promise 5.

    private static void ruleOfTheDraft() {
        sentence("5 rule", "its left side are the first n letters of the draft, its right side the others; the draft is"
                + " empty then: how many rules there are.");
        WitnessBench x = new WitnessBench();
        int[][] sides = {{1, 0}, {1, 2}, {2, 0}, {2, 1}, {2, 2}, {3, 0}, {3, 1}, {3, 2}};
        for (int n = 0; n < 8; n++) {
            draftOf(x, sides[n][0] + sides[n][1]);
            due("rule", x.rule(sides[n][0]), n + 1);
            due("the draft is empty then", x.type('c'), 1);
        }
        dueText("one and none", formOf("abc", "a>"), "bc");
        dueText("one and two", formOf("abc", "a>xy"), "xybc");
        dueText("two and one", formOf("abc", "ab>x"), "xc");
        dueText("three and two", formOf("abcd", "abc>xy"), "xyd");
        dueText("three and none", formOf("abcd", "abc>"), "d");
    }

    private static void ruleOfNoLeftSide() {
        sentence("5 rule", "IllegalArgumentException: n is not 1 .. 3");
        for (int letters = 0; letters <= 8; letters++) {
            WitnessBench x = withDraft(letters);
            for (int n : new int[] {FAR_BELOW, -1, 0, 4, 5, FAR_OFF}) {
                dueThrow("rule(" + n + ") of " + letters, ARGUMENT, () -> x.rule(n));
            }
        }
        refusedForAll("rule", ARGUMENT, new int[] {FAR_BELOW, -1, 0, 4, FAR_OFF}, (x, n) -> x.rule(n));
    }

    private static void ruleOfAnotherLength() {
        sentence("5 rule", "or the draft has not n to n + 2 letters");
        for (int n = 1; n <= 3; n++) {
            int left = n;
            for (int letters = 0; letters <= 8; letters++) {
                int length = letters;
                if (letters < n || letters > n + 2) {
                    refused("rule(" + n + ") of " + letters, ARGUMENT, () -> withDraft(length), x -> x.rule(left));
                } else {
                    due("rule(" + n + ") of " + letters, withDraft(letters).rule(n), 3);
                }
            }
        }
    }

    private static void ruleNinth() {
        sentence("5 rule", "UnsupportedOperationException: there are 8.");
        refused("a ninth", UNSUPPORTED, BoundaryTest::withEightRules, x -> x.rule(1));
        refused("a ninth, of no left side", ARGUMENT, BoundaryTest::withEightRules, x -> x.rule(0));
        refused("a ninth, too short", ARGUMENT, BoundaryTest::withEightRules, x -> x.rule(3));
        due("what was refused is no rule: bb", withEightRules().form(0, 1), 2);
    }

    // Promise 6.

    private static void equateCounts() {
        sentence("6 equate", "Word i of w and word j of v are an equality more: how many there are.");
        WitnessBench x = bench("a b", "c d");
        due("two words", x.equate(0, 0, 1, 1), 1);
        due("the same again", x.equate(0, 0, 1, 1), 2);
        due("the other way round", x.equate(1, 1, 0, 0), 3);
        due("a word and itself", x.equate(0, 1, 0, 1), 4);
        due("of one witness", x.equate(0, 0, 0, 1), 5);
        due("the last that there can be", x.equate(1, 0, 1, 1), 6);
        due("it counts", x.distance(1, 0, 0, 1), 0);
    }

    private static void equateNoSuchWord() {
        sentence("6 equate", "IndexOutOfBoundsException; (no such witness or word)");
        refusedForAll("equate, first witness", INDEX, NO_WITNESS, (x, w) -> x.equate(w, 0, 0, 0));
        refusedForAll("equate, second witness", INDEX, NO_WITNESS, (x, v) -> x.equate(0, 0, v, 0));
        refusedForAll("equate, first word", INDEX, new int[] {FAR_BELOW, -1, 4, 10, FAR_OFF},
                (x, i) -> x.equate(0, i, 0, 0));
        refusedForAll("equate, second word", INDEX, new int[] {FAR_BELOW, -1, 4, 10, FAR_OFF},
                (x, j) -> x.equate(0, 0, 0, j));
        refused("no word, and a gap", INDEX, x -> x.equate(0, 2, 1, 4));
        refused("no word, and full", INDEX, BoundaryTest::withSixEqualities, x -> x.equate(0, 0, 1, 4));
    }

    private static void equateAGap() {
        sentence("6 equate", "IllegalArgumentException: one is a gap");
        refused("the first", ARGUMENT, x -> x.equate(0, 2, 1, 0));
        refused("the second", ARGUMENT, x -> x.equate(1, 0, 2, 1));
        refused("both", ARGUMENT, x -> x.equate(0, 2, 2, 1));
        refused("the same gap", ARGUMENT, x -> x.equate(0, 2, 0, 2));
        refused("a gap, and full", ARGUMENT, BoundaryTest::withSixEqualities, x -> x.equate(0, 2, 0, 0));
        WitnessBench y = bench("b c");
        rule(y, "b", "");
        due("a form without letters is no gap", y.equate(0, 0, 0, 1), 1);
        due("a form without letters is no gap", y.distance(0, 0, 0, 1), 0);
    }

    private static void equateSeventh() {
        sentence("6 equate", "UnsupportedOperationException: there are 6.");
        refused("a seventh", UNSUPPORTED, BoundaryTest::withSixEqualities, x -> x.equate(0, 0, 0, 1));
        refused("a seventh, there already", UNSUPPORTED, BoundaryTest::withSixEqualities, x -> x.equate(0, 1, 1, 3));
        WitnessBench x = withSixEqualities();
        dueThrow("a seventh", UNSUPPORTED, () -> x.equate(0, 0, 0, 1));
        due("it does not count", x.distance(0, 0, 0, 1), 4);
    }

    // Promise 7.

    private static void formCounts() {
        sentence("7 form", "How many letters the form of word i of w has");
        WitnessBench x = bench("aaaaaa a b");
        due("six", x.form(0, 0), 6);
        due("one", x.form(0, 1), 1);
        rule(x, "a", "aa");
        due("twelve", x.form(0, 0), 12);
        rule(x, "b", "");
        due("none", x.form(0, 2), 0);
    }

    private static void formOfGap() {
        sentence("7 form", "NONE for a gap.");
        WitnessBench x = bench("?", "", "", "a ?");
        due("the first word", x.form(0, 0), NONE);
        due("the last witness", x.form(3, 1), NONE);
        rule(x, "a", "");
        due("with rules", x.form(0, 0), NONE);
        due("no gap", x.form(3, 0), 0);
    }

    private static void formNoSuchWord() {
        sentence("7 form", "IndexOutOfBoundsException.");
        refusedForAll("form, witness", INDEX, NO_WITNESS, (x, w) -> x.form(w, 0));
        refused("form(-1, 0)", INDEX, x -> x.form(-1, 0));
        refusedForAll("form of A", INDEX, new int[] {FAR_BELOW, -1, 4, 10, FAR_OFF}, (x, i) -> x.form(0, i));
        refused("form of C, which has three", INDEX, x -> x.form(2, 3));
        refused("form of D, which has two", INDEX, x -> x.form(3, 2));
    }

    // Promise 8.

    private static void distanceOfTwoWords() {
        sentence("8 distance", "The distance of word i of w and word j of v.");
        WitnessBench x = bench("aaaaaa bbbbbb ?", "aaaaab ?", "", "aaaaaa");
        due("of one witness", x.distance(0, 0, 0, 1), 12);
        due("itself", x.distance(0, 0, 0, 0), 0);
        due("of two", x.distance(0, 0, 1, 0), 2);
        due("of two, the other way round", x.distance(1, 0, 0, 0), 2);
        due("alike", x.distance(0, 0, 3, 0), 0);
        due("a gap and a word", x.distance(0, 2, 1, 0), 4);
        due("a gap and a gap", x.distance(0, 2, 1, 1), 0);
    }

    private static void distanceNoSuchWord() {
        sentence("8 distance", "IndexOutOfBoundsException.");
        refusedForAll("distance, first witness", INDEX, NO_WITNESS, (x, w) -> x.distance(w, 0, 0, 0));
        refusedForAll("distance, second witness", INDEX, NO_WITNESS, (x, v) -> x.distance(0, 0, v, 0));
        refusedForAll("distance, first word", INDEX, new int[] {FAR_BELOW, -1, 4, FAR_OFF},
                (x, i) -> x.distance(0, i, 0, 0));
        refusedForAll("distance, second word", INDEX, new int[] {FAR_BELOW, -1, 4, FAR_OFF},
                (x, j) -> x.distance(0, 0, 0, j));
        refused("a word of D, which has two", INDEX, x -> x.distance(3, 2, 0, 0));
    }

    // Promise 9.

    private static void joinAnswersTheCost() {
        sentence("9 join", "the cost.");
        due("one word", bench("a").join(0), 8);
        due("one gap", bench("?").join(0), 8);
        due("ten words", bench(far('a', 10)).join(0), 80);
        due("alike in all", joinedAndThen("a b c", "a b c"), 0);
        due("one letter", joinedAndThen("a b c", "a b d"), 2);
        due("a gap", joinedAndThen("a b c", "a b ?"), 4);
        due("one passed", joinedAndThen("a b c", "a b"), 8);
        due("one put in", joinedAndThen("a b", "a b c"), 8);
    }

    private static int joinedAndThen(String first, String second) {
        WitnessBench x = bench(first, second);
        x.join(0);
        return x.join(1);
    }

    private static void joinMakesTheBase() {
        sentence("9 join", "(if none was joined before it, it becomes the base)");
        for (int first = 0; first < 4; first++) {
            WitnessBench x = bench("a", "b", "c", "d");
            x.join(first);
            x.join((first + 1) % 4);
            x.apparatus(true);
            due("the lemma is of the first, " + first, x.out(2), 'a' + first);
        }
        WitnessBench y = joined("a", "b");
        y.base(NONE);
        witness(y, 2, "c");
        y.join(2);
        y.apparatus(true);
        dueText("others are joined: there is no base still", out(y), "0 -] a A; b B; c C\n");
        y.retract();
        y.retract();
        y.retract();
        y.join(1);
        due("none is joined: it becomes the base", y.apparatus(true), 0);
        y.join(0);
        y.apparatus(true);
        dueText("and stays it", out(y), "0 b] a A\n");
    }

    private static void joinNoWitness() {
        sentence("9 join", "IndexOutOfBoundsException; (no such witness)");
        refusedForAll("join", INDEX, NO_WITNESS, (x, w) -> x.join(w));
        refused("join(-1)", INDEX, x -> x.join(-1));
    }

    private static void joinAJoined() {
        sentence("9 join", "IllegalStateException: it is joined");
        refusedForAll("join", STATE, new int[] {0, 1, 2}, (x, w) -> x.join(w));
        WitnessBench x = busy();
        due("joined no more", x.retract(), 1);
        due("joined again", x.join(1) > 0 ? 1 : 0, 1);
        dueThrow("joined", STATE, () -> x.join(1));
    }

    private static void joinWithoutWords() {
        sentence("9 join", "or has no words");
        refused("the first to be joined", STATE, WitnessBench::new, x -> x.join(0));
        refused("another one is joined", STATE, () -> joined("a"), x -> x.join(1));
        WitnessBench x = bench("a");
        for (int w = 1; w < 4; w++) {
            int witness = w;
            dueThrow("join(" + w + ")", STATE, () -> x.join(witness));
        }
        x.join(0);
        dueThrow("join(1)", STATE, () -> x.join(1));
        x.word(1);
        due("one gap is a word", x.join(1), 4);
    }

    private static void joinTooManyPlaces() {
        sentence("9 join", "UnsupportedOperationException: there would be more than 24 places.");
        due("24", withAllPlaces("?").places(), 24);
        refused("25", UNSUPPORTED, () -> withAllPlaces("xxxxxx y"), x -> x.join(3));
        refused("26", UNSUPPORTED, () -> withAllPlaces("xxxxxx y z"), x -> x.join(3));
        due("24 again: all are passed but two", withAllPlaces("wwwwww xxxxxx").join(3), 22 * 8);
        due("24 again: all are passed but one", withAllPlaces("x").join(3), 23 * 8 + 10);
        WitnessBench x = withAllPlaces("xxxxxx y");
        dueThrow("25", UNSUPPORTED, () -> x.join(3));
        due("C is the last", x.retract(), 2);
        x.join(3);
        due("now there is room", x.retract(), 3);
    }

    // Promise 10.

    private static void retractTheLast() {
        sentence("10 retract", "The witness that was joined last is joined no more: which.");
        WitnessBench x = bench("a", "b", "c", "d");
        int[] order = {2, 0, 3, 1};
        for (int w : order) {
            x.join(w);
        }
        for (int k = 3; k >= 0; k--) {
            due("by the order of joining", x.retract(), order[k]);
            int w = order[k];
            dueThrow("joined no more", STATE, () -> x.rebuild(w));
        }
        x.join(1);
        x.join(2);
        x.retract();
        x.join(0);
        due("one came later", x.retract(), 0);
        due("and one before", x.retract(), 1);
    }

    private static void retractPlaces() {
        sentence("10 retract", "Places without words go");
        WitnessBench x = joined("bbbbbb dddddd", "aaaaaa bbbbbb cccccc dddddd eeeeee", "bbbbbb eeeeee");
        due("five", x.places(), 5);
        x.retract();
        due("five still: they have words of B", x.places(), 5);
        x.retract();
        due("first, middle and last go", x.places(), 2);
        dueText("A", row(x, 0), "01");
        x.retract();
        due("all", x.places(), 0);
        dueThrow("all", INDEX, () -> x.at(0, 0));
        due("joined again", x.join(1), 40);
        due("five", x.places(), 5);
        x.retract();
        due("a shorter one is joined then", x.join(0), 16);
        due("two", x.places(), 2);
        WitnessBench full = withAllPlaces("?");
        full.retract();
        due("of 24", full.places(), 17);
        full.retract();
        due("of 17", full.places(), 10);
        full.retract();
        due("of 10", full.places(), 0);
    }

    private static void retractTheBase() {
        sentence("10 retract", "it is no base (there is none then)");
        WitnessBench x = joined("a", "b", "c");
        x.base(2);
        x.retract();
        x.apparatus(true);
        dueText("none then", out(x), "0 -] a A; b B\n");
        x.join(2);
        x.apparatus(true);
        dueText("none still", out(x), "0 -] a A; b B; c C\n");
        x.base(1);
        x.retract();
        x.apparatus(true);
        dueText("another one stays the base", out(x), "0 b] a A\n");
    }

    private static void retractAChoice() {
        sentence("10 retract", "and no choice any more.");
        WitnessBench x = joined("a b", "c d");
        x.choose(0, 1);
        x.choose(1, 1);
        x.choose(1, 0);
        x.retract();
        due("the base's words hold", x.apparatus(true), 0);
        x.join(1);
        x.apparatus(true);
        dueText("also when it is joined again", out(x), "0 a] c B\n1 b] d B\n");
        WitnessBench y = joined("bbbbbb", "aaaaaa bbbbbb");
        y.base(NONE);
        y.choose(1, 0);
        y.retract();
        due("a choice of another stays, with its place", y.apparatus(true), 0);
        y.choose(0, NONE);
        due("it was that place's", y.apparatus(true), "0 -] bbbbbb A\n".length());
    }

    private static void retractNone() {
        sentence("10 retract", "IllegalStateException: none is joined.");
        refused("a new one", STATE, WitnessBench::new, x -> x.retract());
        refused("with words", STATE, () -> bench("a", "b"), x -> x.retract());
        WitnessBench y = joined("a", "b");
        y.retract();
        y.retract();
        dueThrow("all retracted", STATE, () -> y.retract());
    }

    // Promises 11 to 13.

    private static void placesCount() {
        sentence("11 places", "How many places there are.");
        WitnessBench x = bench("?", "a b");
        due("none", x.places(), 0);
        x.join(0);
        due("one", x.places(), 1);
        x.join(1);
        due("two", x.places(), 2);
        x.retract();
        due("one", x.places(), 1);
        due("the most", withAllPlaces("?").places(), 24);
    }

    private static void atAPlace() {
        sentence("12 at", "The word of w at a place; NONE.");
        WitnessBench x = withAllPlaces("?");
        due("the first word at the first place", x.at(0, 0), 0);
        due("the last word at the last place", x.at(23, 2), 9);
        due("A has nothing there", x.at(23, 0), NONE);
        due("C has nothing there", x.at(0, 2), NONE);
        due("D is not joined", x.at(0, 3), NONE);
        due("two at one place", x.at(7, 0), 7);
        due("two at one place", x.at(7, 1), 0);
        x.retract();
        due("C is joined no more", x.at(14, 2), NONE);
    }

    private static void atNoPlace() {
        sentence("12 at", "IndexOutOfBoundsException. (no such place or witness)");
        refusedForAll("at, place", INDEX, new int[] {FAR_BELOW, -1, 4, 24, FAR_OFF}, (x, p) -> x.at(p, 0));
        refusedForAll("at, witness", INDEX, NO_WITNESS, (x, w) -> x.at(0, w));
        refused("at(0, -1)", INDEX, x -> x.at(0, -1));
        WitnessBench all = withAllPlaces("?");
        dueThrow("place 24", INDEX, () -> all.at(24, 0));
    }

    private static void besideAWord() {
        sentence("13 beside", "The word of v that is at the place of word i of w; NONE");
        WitnessBench x = withAllPlaces("?");
        due("the first they share", x.beside(0, 7, 1), 0);
        due("the first they share, the other way round", x.beside(1, 0, 0), 7);
        due("the last they share", x.beside(0, 9, 1), 2);
        due("nothing there", x.beside(0, 6, 1), NONE);
        due("nothing there", x.beside(1, 3, 0), NONE);
        due("itself, the first", x.beside(0, 0, 0), 0);
        due("itself, the last", x.beside(2, 9, 2), 9);
    }

    private static void besideOneNotJoined() {
        sentence("13 beside", "also when w or v is not joined.");
        WitnessBench x = bench("a", "a");
        due("neither", x.beside(0, 0, 1), NONE);
        due("itself", x.beside(0, 0, 0), NONE);
        x.join(0);
        due("v is not", x.beside(0, 0, 1), NONE);
        due("w is not", x.beside(1, 0, 0), NONE);
        due("v has no words", x.beside(0, 0, 2), NONE);
        x.join(1);
        due("both are", x.beside(0, 0, 1), 0);
        x.retract();
        due("v is no more", x.beside(0, 0, 1), NONE);
        due("w is no more", x.beside(1, 0, 0), NONE);
    }

    private static void besideNoWord() {
        sentence("13 beside", "IndexOutOfBoundsException. (no such witness or word)");
        refusedForAll("beside, first witness", INDEX, NO_WITNESS, (x, w) -> x.beside(w, 0, 0));
        refusedForAll("beside, second witness", INDEX, NO_WITNESS, (x, v) -> x.beside(0, 0, v));
        refusedForAll("beside, word", INDEX, new int[] {FAR_BELOW, -1, 4, FAR_OFF}, (x, i) -> x.beside(0, i, 1));
        refused("beside(0, 0, -1)", INDEX, x -> x.beside(0, 0, -1));
        refused("beside(-1, 0, 0)", INDEX, x -> x.beside(-1, 0, 0));
        refused("a word of D, which is not joined", INDEX, x -> x.beside(3, 2, 0));
    }

    // Promises 14 and 15.

    private static void baseOfOne() {
        sentence("14 base", "A joined witness becomes the base");
        WitnessBench x = joined("a", "b", "c", "d");
        String[] due = {"0 a] b B; c C; d D\n", "0 b] a A; c C; d D\n", "0 c] a A; b B; d D\n", "0 d] a A; b B; c C\n"};
        for (int w = 3; w >= 0; w--) {
            x.base(w);
            x.base(w);
            x.apparatus(true);
            dueText("base " + w, out(x), due[w]);
        }
    }

    private static void baseOfNone() {
        sentence("14 base", "or there is none (w = NONE).");
        WitnessBench x = joined("a");
        x.base(NONE);
        x.apparatus(true);
        dueText("none", out(x), "0 -] a A\n");
        x.base(NONE);
        x.apparatus(true);
        dueText("none still", out(x), "0 -] a A\n");
        WitnessBench y = new WitnessBench();
        y.base(NONE);
        due("without witnesses", y.places(), 0);
    }

    private static void baseWithoutChoices() {
        sentence("14 base", "No place has a choice then.");
        for (int w = -1; w < 2; w++) {
            WitnessBench x = joined("a b", "c d");
            x.choose(0, 1);
            x.choose(1, 1);
            x.base(w);
            x.apparatus(true);
            dueText("base " + w, out(x), w == NONE ? "0 -] a A; c B\n1 -] b A; d B\n"
                    : w == 0 ? "0 a] c B\n1 b] d B\n" : "0 c] a A\n1 d] b A\n");
        }
        WitnessBench y = joined("a b", "c d");
        y.choose(0, 1);
        y.base(0);
        y.apparatus(true);
        dueText("also when it is the base already", out(y), "0 a] c B\n1 b] d B\n");
    }

    private static void baseOfNoWitness() {
        sentence("14 base", "IndexOutOfBoundsException; (no such witness)");
        refusedForAll("base", INDEX, NO_WITNESS, (x, w) -> x.base(w));
    }

    private static void baseNotJoined() {
        sentence("14 base", "IllegalStateException: w is not joined.");
        refused("base(3)", STATE, x -> x.base(3));
        refused("none is joined", STATE, () -> bench("a"), x -> x.base(0));
        refused("no words", STATE, WitnessBench::new, x -> x.base(0));
        WitnessBench y = joined("a", "b");
        y.retract();
        dueThrow("joined no more", STATE, () -> y.base(1));
    }

    private static void chooseOne() {
        sentence("15 choose", "A joined witness becomes the choice of a place");
        WitnessBench x = withAllPlaces("?");
        x.choose(0, 0);
        x.base(NONE);
        x.choose(23, 2);
        x.choose(0, 0);
        int length = x.apparatus(true);
        dueText("the first place, and not the second", out(x, 0, 29), "0 aaaaaa] - BC\n1 -] bbbbbb A\n");
        dueText("the last place", out(x, length - 17, length), "\n23 xxxxxx] - AB\n");
        WitnessBench y = joined("a", "b");
        y.choose(0, 1);
        y.choose(0, 0);
        y.apparatus(true);
        dueText("the later one holds", out(y), "0 a] b B\n");
    }

    private static void chooseNone() {
        sentence("15 choose", "or it has none (w = NONE).");
        WitnessBench x = joined("a b", "c d");
        x.choose(0, NONE);
        x.choose(0, 1);
        x.choose(1, 1);
        x.choose(0, NONE);
        x.apparatus(true);
        dueText("the other place's stays", out(x), "0 a] c B\n1 d] b A\n");
    }

    private static void chooseNoPlace() {
        sentence("15 choose", "IndexOutOfBoundsException; (no such place or witness)");
        refusedForAll("choose, place", INDEX, new int[] {FAR_BELOW, -1, 4, 24, FAR_OFF}, (x, p) -> x.choose(p, 0));
        refusedForAll("choose NONE, place", INDEX, new int[] {-1, 4}, (x, p) -> x.choose(p, NONE));
        refusedForAll("choose, witness", INDEX, NO_WITNESS, (x, w) -> x.choose(0, w));
        refused("no place, not joined", INDEX, x -> x.choose(4, 3));
    }

    private static void chooseNotJoined() {
        sentence("15 choose", "IllegalStateException: w is not joined.");
        refused("choose(0, 3)", STATE, x -> x.choose(0, 3));
        refused("choose(3, 3)", STATE, x -> x.choose(3, 3));
        WitnessBench y = joined("a", "b");
        y.retract();
        dueThrow("joined no more", STATE, () -> y.choose(0, 1));
    }

    // Promises 16 to 18.

    private static void apparatusAnswersLength() {
        sentence("16 apparatus", "OUT becomes the apparatus, written: how many characters.");
        WitnessBench x = joined("a b", "a c");
        due("written", x.apparatus(false), 14);
        dueText("written", out(x), "1 b] b A; c B\n");
        due("shorter", x.apparatus(true), 9);
        dueText("shorter", out(x), "1 b] c B\n");
        dueThrow("what was behind it is no more", INDEX, () -> x.out(9));
        x.amend(0, 'x');
        due("longer", x.apparatus(false), 14);
        dueText("what was amended is no more", out(x), "1 b] b A; c B\n");
        x.retract();
        due("empty", x.apparatus(false), 0);
        dueThrow("empty", INDEX, () -> x.out(0));
        due("without witnesses", new WitnessBench().apparatus(true), 0);
    }

    private static void apparatusLongest() {
        sentence("16 apparatus", "how many characters (the longest)");
        WitnessBench x = new WitnessBench();
        String[] witnesses = {"a a a a a a a a a a", "b b b b b b b b b b", "c c c c c c c c c c", "d d d d d d d d d d"};
        for (int w = 0; w < 4; w++) {
            typeWords(x, w, witnesses[w].replaceAll("([a-d])", "$1$1$1$1$1$1"));
        }
        for (char c = 'a'; c <= 'd'; c++) {
            rule(x, "" + c, "" + c + c);
            x.join(c - 'a');
        }
        due("ten entries of four groups with twelve letters each", x.apparatus(false), 10 * 79);
        due("the last character", x.out(789), 10);
        dueThrow("no more", INDEX, () -> x.out(790));
        due("three groups", x.apparatus(true), 10 * 63);
        due("it can be read", x.rebuild(3), 10);
    }

    private static void outACharacter() {
        sentence("17 out", "Character k of OUT.");
        WitnessBench x = joined("a", "b");
        due("nine", x.apparatus(true), 9);
        String text = "0 a] b B\n";
        for (int k = 0; k < 9; k++) {
            due("character " + k, x.out(k), text.charAt(k));
        }
    }

    private static void outNoCharacter() {
        sentence("17 out", "IndexOutOfBoundsException: there is none.");
        refused("OUT is empty", INDEX, WitnessBench::new, x -> x.out(0));
        WitnessBench x = joined("a", "b");
        dueThrow("nothing written yet", INDEX, () -> x.out(0));
        x.apparatus(true);
        for (int k : new int[] {FAR_BELOW, -1, 9, 10, FAR_OFF}) {
            dueThrow("out(" + k + ")", INDEX, () -> x.out(k));
        }
        refusedForAll("out", INDEX, new int[] {-1, 999}, (y, k) -> y.out(k));
    }

    private static void amendACharacter() {
        sentence("18 amend", "Character k of OUT becomes c.");
        WitnessBench x = joined("a", "b");
        x.apparatus(true);
        int[] codes = {0, 9, 10, 127, 128, 255, 256, 32768, 65535};
        for (int k = 0; k < 9; k++) {
            x.amend(k, (char) codes[k]);
        }
        for (int k = 0; k < 9; k++) {
            due("character " + k, x.out(k), codes[k]);
        }
        dueThrow("it is as long as before", INDEX, () -> x.out(9));
    }

    private static void amendNoCharacter() {
        sentence("18 amend", "IndexOutOfBoundsException: there is none.");
        refused("OUT is empty", INDEX, WitnessBench::new, x -> x.amend(0, 'a'));
        refusedForAll("amend", INDEX, new int[] {FAR_BELOW, -1, 78, 999, FAR_OFF}, (x, k) -> x.amend(k, 'a'));
        WitnessBench x = joined("a", "b");
        x.apparatus(true);
        x.amend(8, 'q');
        dueThrow("amend(9)", INDEX, () -> x.amend(9, 'q'));
        dueText("the last was amended", out(x), "0 a] b Bq");
    }

    // Promises 19 and 20.

    private static void rebuildAnswersWords() {
        sentence("19 rebuild", "BUILT become the forms of its words by that: how many words");
        WitnessBench x = withAllPlaces("?");
        due("OUT is empty: the words of the base", x.rebuild(2), 10);
        x.base(NONE);
        due("no words", x.rebuild(2), 0);
        due("no words", x.built(0, 0), NONE);
        for (int p = 0; p < 24; p++) {
            x.choose(p, p < 10 ? 0 : p < 17 ? 1 : 2);
        }
        due("a word at each place", x.rebuild(0), 24);
        due("the last one", x.built(23, 5), 'x');
        due("no more", x.built(24, 0), NONE);
        WitnessBench y = joined("a b c", "a");
        y.apparatus(true);
        due("A", y.rebuild(0), 3);
        due("B has one", y.rebuild(1), 1);
        due("what was built before is gone", y.built(1, 0), NONE);
    }

    private static void rebuildFaultIsBelow() {
        sentence("19 rebuild", "or -100 less the place of the fault, changing nothing.");
        WitnessBench x = joined("a b", "c d");
        x.apparatus(true);
        String right = "0 a] c B\n1 b] d B\n";
        dueText("OUT", out(x), right);
        due("B", x.rebuild(1), 2);
        for (int k = 0; k < right.length(); k++) {
            x.amend(k, '!');
            due("a fault at " + k, x.rebuild(0), -100 - k);
            dueText("B is built still", built(x, 2), "c d");
            x.amend(k, right.charAt(k));
        }
        dueText("OUT is as it was", out(x), right);
        x.amend(17, ';');
        due("a fault at the end", x.rebuild(0), -118);
        dueText("B is built still", built(x, 3), "c d ");
        WitnessBench all = withAllPlaces("?");
        all.base(NONE);
        int length = all.apparatus(false);
        dueText("the last of 24 entries", out(all, length - 22, length), "\n23 -] - AB; xxxxxx C\n");
        all.amend(length - 11, '\n');
        due("no entry comes behind the 24th", all.rebuild(0), -100 - (length - 10));
    }

    private static void rebuildNoWitness() {
        sentence("19 rebuild", "IndexOutOfBoundsException; (no such witness)");
        refusedForAll("rebuild", INDEX, NO_WITNESS, (x, w) -> x.rebuild(w));
        refused("rebuild(-1)", INDEX, x -> x.rebuild(-1));
    }

    private static void rebuildNotJoined() {
        sentence("19 rebuild", "IllegalStateException: it is not joined.");
        refused("rebuild(3), and OUT has a fault", STATE, x -> x.rebuild(3));
        refused("none is joined", STATE, WitnessBench::new, x -> x.rebuild(0));
        WitnessBench y = joined("a", "b");
        y.retract();
        dueThrow("joined no more", STATE, () -> y.rebuild(1));
        due("one that is", y.rebuild(0), 1);
    }

    private static void builtLetters() {
        sentence("20 built", "Letter k of built form i, as a code");
        WitnessBench x = joined("aaaaaz b");
        rule(x, "a", "xy");
        rule(x, "z", "zw");
        due("two", x.rebuild(0), 2);
        due("the first", x.built(0, 0), 'x');
        due("the twelfth", x.built(0, 11), 'w');
        due("the last form", x.built(1, 0), 'b');
    }

    private static void builtGap() {
        sentence("20 built", "63 for a gap (k = 0)");
        WitnessBench x = joined("? a ?");
        x.rebuild(0);
        due("the first", x.built(0, 0), 63);
        due("the last", x.built(2, 0), 63);
        due("k = 1", x.built(0, 1), NONE);
        due("k = -1", x.built(0, -1), NONE);
        due("no gap", x.built(1, 0), 'a');
    }

    private static void builtNoSuchLetter() {
        sentence("20 built", "NONE when it has no such letter");
        WitnessBench x = joined("abcdef z ?");
        rule(x, "z", "");
        x.rebuild(0);
        for (int k : new int[] {FAR_BELOW, -1, 6, 11, 12, 13, FAR_OFF}) {
            due("of six letters", x.built(0, k), NONE);
        }
        for (int k : new int[] {-1, 0, 1}) {
            due("of none", x.built(1, k), NONE);
        }
        for (int k : new int[] {FAR_BELOW, -1, 1, 63, FAR_OFF}) {
            due("of a gap", x.built(2, k), NONE);
        }
        rule(x, "a", "aa");
        x.rebuild(0);
        due("the seventh", x.built(0, 6), 'f');
        due("no eighth", x.built(0, 7), NONE);
    }

    private static void builtNoSuchForm() {
        sentence("20 built", "or there is no such form.");
        WitnessBench x = new WitnessBench();
        for (int i : new int[] {FAR_BELOW, -1, 0, 1, 24, FAR_OFF}) {
            due("nothing built yet", x.built(i, 0), NONE);
        }
        WitnessBench y = joined("a b");
        y.rebuild(0);
        for (int i : new int[] {FAR_BELOW, -1, 2, 24, FAR_OFF}) {
            due("two are built", y.built(i, 0), NONE);
        }
    }

    // Promises 21 and 22.

    private static void concordAnswersCount() {
        sentence("21 concord", "FOUND become all words that are equal to the draft, as a word");
        WitnessBench x = bench("a b", "b a", "c", "a");
        x.type('a');
        due("three", x.concord(), 3);
        dueText("witness by witness", found(x, 3), "0 101 300");
        x.equate(0, 0, 2, 0);
        due("four by an equality", x.concord(), 4);
        dueText("four by an equality", found(x, 4), "0 101 200 300");
        x.type('a');
        due("none", x.concord(), 0);
        dueThrow("what was found before is gone", INDEX, () -> x.found(0));
        due("the draft is as it was", x.type('a'), 3);
        draft(x, "a");
        rule(x, "b", "a");
        draft(x, "b");
        due("the draft's form counts", x.concord(), 6);
        dueThrow("no seventh", INDEX, () -> x.found(6));
    }

    private static void concordOfLongForms() {
        sentence("21 concord", "(whose form may have up to sixteen letters");
        WitnessBench x = bench("aaaaaa aaaaab");
        rule(x, "a", "ab");
        rule(x, "c", "a");
        draft(x, "aaaaaaaa");
        due("sixteen", x.concord(), 0);
        draft(x, "aaaaaaa");
        due("fourteen, of which the first twelve are a word's", x.concord(), 0);
        draft(x, "aaaaaac");
        due("thirteen, of which the first twelve are a word's", x.concord(), 0);
        draft(x, "aaaaaa");
        due("twelve", x.concord(), 1);
        due("twelve", x.found(0), 0);
        draft(x, "aaaaacb");
        due("twelve of seven letters", x.concord(), 1);
        draft(x, "aaaacbcb");
        due("twelve of eight letters", x.concord(), 1);
        draft(x, "aaaab");
        due("nine", x.concord(), 0);
    }

    private static void concordOfAGap() {
        sentence("21 concord", "without letters it is a gap)");
        WitnessBench x = bench("? a z", "?", "", "b ?");
        due("three gaps", x.concord(), 3);
        dueText("three gaps", found(x, 3), "0 100 301");
        rule(x, "z", "");
        due("a form without letters is no gap", x.concord(), 3);
        draft(x, "zz");
        due("a draft that has letters is no gap", x.concord(), 1);
        due("a draft that has letters is no gap", x.found(0), 2);
        WitnessBench y = bench("a");
        due("no gaps", y.concord(), 0);
    }

    private static void concordOfAll() {
        sentence("21 concord", "witness by witness: how many.");
        WitnessBench x = new WitnessBench();
        due("no words", x.concord(), 0);
        for (int k = 0; k < 40; k++) {
            x.word(3 - k / 10);
        }
        due("all forty", x.concord(), 40);
        for (int k = 0; k < 40; k++) {
            due("number " + k, x.found(k), 100 * (k / 10) + k % 10);
        }
        dueThrow("no more", INDEX, () -> x.found(40));
    }

    private static void foundNumbers() {
        sentence("22 found", "What was found as number i, as 100 * witness + word.");
        WitnessBench x = new WitnessBench();
        for (int w = 0; w < 4; w++) {
            for (int i = 0; i < 10; i++) {
                if (i == 0 || i == 9) {
                    x.type('a');
                }
                x.word(w);
            }
        }
        x.type('a');
        due("eight", x.concord(), 8);
        dueText("the first and the last of each", found(x, 8), "0 9 100 109 200 209 300 309");
    }

    private static void foundNoSuch() {
        sentence("22 found", "IndexOutOfBoundsException: there is none.");
        refused("nothing sought yet", INDEX, WitnessBench::new, x -> x.found(0));
        refusedForAll("found", INDEX, new int[] {FAR_BELOW, -1, 7, 40, FAR_OFF}, (x, i) -> x.found(i));
        WitnessBench y = bench("a");
        draft(y, "a");
        y.concord();
        due("the only one", y.found(0), 0);
        dueThrow("no second", INDEX, () -> y.found(1));
        y.type('b');
        y.concord();
        dueThrow("none now", INDEX, () -> y.found(0));
    }

    // Promises 23 and 24.

    private static void blocksAnswersCount() {
        sentence("23 blocks", "Finds the blocks of two witnesses: how many.");
        WitnessBench x = joined("a b c d", "c d a b", "a b c d");
        due("two", x.blocks(0, 1), 2);
        due("none", x.blocks(0, 2), 0);
        dueThrow("those before are gone", INDEX, () -> x.block(0, 0));
        due("the other way round", x.blocks(1, 0), 2);
        dueText("the other way round", blocks(x, 2), "0,2,2 2,0,2");
        WitnessBench all = joined("a a a a a a a a a a", "a a a a a a a a a a");
        due("all slants but one, and those of one word", all.blocks(1, 0), 16);
        dueText("the shortest is the last", blocks(all, 16).substring(84), "7,0,3 8,0,2");
        WitnessBench full = bench("a b", far('c', 10), "a b", far('c', 10));
        full.join(0);
        full.join(1);
        full.join(3);
        due("words behind the tenth are none, though another witness has some", full.blocks(0, 1), 0);
        due("the other way round", full.blocks(1, 0), 0);
        due("the last witness", full.blocks(0, 3), 0);
        due("the last witness, the other way round", full.blocks(3, 0), 0);
    }

    private static void blocksNoWitness() {
        sentence("23 blocks", "IndexOutOfBoundsException; (no such witness)");
        refusedForAll("blocks, first", INDEX, NO_WITNESS, (x, w) -> x.blocks(w, 0));
        refusedForAll("blocks, second", INDEX, NO_WITNESS, (x, v) -> x.blocks(0, v));
        refusedForAll("blocks, both the same", INDEX, NO_WITNESS, (x, w) -> x.blocks(w, w));
        refused("blocks(-1, -1)", INDEX, x -> x.blocks(-1, -1));
        refused("not joined, and no witness", INDEX, x -> x.blocks(3, 4));
    }

    private static void blocksOfTheSame() {
        sentence("23 blocks", "IllegalArgumentException: they are the same");
        refusedForAll("blocks", ARGUMENT, new int[] {0, 1, 2}, (x, w) -> x.blocks(w, w));
        refused("not joined", ARGUMENT, x -> x.blocks(3, 3));
    }

    private static void blocksNotJoined() {
        sentence("23 blocks", "IllegalStateException: one is not joined.");
        refused("the second", STATE, x -> x.blocks(0, 3));
        refused("the first", STATE, x -> x.blocks(3, 0));
        refused("both", STATE, () -> bench("a", "a"), x -> x.blocks(0, 1));
        WitnessBench y = joined("a b", "b a");
        y.retract();
        dueThrow("joined no more", STATE, () -> y.blocks(0, 1));
    }

    private static void blockFields() {
        sentence("24 block", "Of block k of the latest that were found, ordered by i, then j: i (what = 0), j (1), n"
                + " (2).");
        WitnessBench x = joined("a b q a b c", "r s a b t a", "a b c");
        due("blocks of A and B", x.blocks(0, 1), 2);
        dueText("by i", blocks(x, 2), "0,2,2 3,2,2");
        WitnessBench y = joined("p p a b p p p p", "a b r a b r a b");
        due("three of B for one of A", y.blocks(0, 1), 3);
        dueText("then by j", blocks(y, 3), "2,0,2 2,3,2 2,6,2");
        WitnessBench z = joined("a a b b a a b b a a", "a a b b a a b b a a");
        due("each four words the same", z.blocks(0, 1), 4);
        dueText("by i, then by j", blocks(z, 4), "0,4,6 0,8,2 4,0,6 8,0,2");
        witness(y, 2, "x");
        y.retract();
        y.retract();
        dueText("the latest that were found, whatever came then", blocks(y, 3), "2,0,2 2,3,2 2,6,2");
    }

    private static void blockNoSuch() {
        sentence("24 block", "IndexOutOfBoundsException: there is none");
        refused("nothing sought yet", INDEX, WitnessBench::new, x -> x.block(0, 0));
        for (int k : new int[] {FAR_BELOW, -1, 1, 50, FAR_OFF}) {
            for (int what = 0; what < 3; what++) {
                int field = what;
                refused("block(" + k + ", " + what + ")", INDEX, x -> x.block(k, field));
            }
        }
    }

    private static void blockNoSuchWhat() {
        sentence("24 block", "or no such what.");
        for (int what : new int[] {FAR_BELOW, -1, 3, 4, FAR_OFF}) {
            refused("block(0, " + what + ")", INDEX, x -> x.block(0, what));
        }
        WitnessBench y = joined("a b c d", "c d a b");
        y.blocks(0, 1);
        dueThrow("block(0, 3) is not block(1, 0)", INDEX, () -> y.block(0, 3));
        dueThrow("block(1, -1) is not block(0, 2)", INDEX, () -> y.block(1, -1));
    }

    // Promises 25 and 26.

    private static void parentOfOne() {
        sentence("25 parent", "Witness v becomes the parent of w");
        WitnessBench x = joined("a", "b", "a", "c");
        x.parent(0, 1);
        due("1", x.changes(0), 1);
        x.parent(0, 2);
        due("2 instead of it", x.changes(0), 0);
        x.parent(0, 3);
        due("3 instead of it", x.changes(0), 1);
        x.parent(0, 3);
        due("3 again", x.changes(0), 1);
        WitnessBench y = new WitnessBench();
        y.parent(3, 0);
        y.parent(2, 3);
        y.parent(1, 2);
        dueThrow("without words, too", STATE, () -> y.parent(0, 1));
    }

    private static void parentOfNone() {
        sentence("25 parent", "or w has none (v = NONE).");
        WitnessBench x = joined("a", "b");
        x.parent(0, NONE);
        x.parent(0, 1);
        due("a parent", x.changes(0), 1);
        x.parent(0, NONE);
        due("none", x.changes(0), 0);
        x.parent(1, 0);
        due("now it may be above", x.changes(0), 1);
    }

    private static void parentNoWitness() {
        sentence("25 parent", "IndexOutOfBoundsException; (no such witness)");
        refusedForAll("parent, w", INDEX, NO_WITNESS, (x, w) -> x.parent(w, 0));
        refusedForAll("parent, v", INDEX, NO_WITNESS, (x, v) -> x.parent(0, v));
        refusedForAll("parent, w and NONE", INDEX, new int[] {-1, 4}, (x, w) -> x.parent(w, NONE));
        refusedForAll("parent, the same", INDEX, NO_WITNESS, (x, w) -> x.parent(w, w));
        refused("parent(-1, 0)", INDEX, x -> x.parent(-1, 0));
    }

    private static void parentOfItself() {
        sentence("25 parent", "IllegalStateException: v is w");
        refusedForAll("parent", STATE, new int[] {0, 1, 2, 3}, (x, w) -> x.parent(w, w));
    }

    private static void parentBelow() {
        sentence("25 parent", "or below it.");
        refused("a child", STATE, x -> x.parent(0, 1));
        refused("a child's child", STATE, x -> x.parent(0, 2));
        Consumer<WitnessBench> longChain = x -> x.parent(0, 3);
        refused("a child's child's child", STATE, () -> {
            WitnessBench x = busy();
            x.parent(3, 2);
            return x;
        }, longChain);
        WitnessBench y = busy();
        y.parent(2, 0);
        y.parent(1, 2);
        dueThrow("below it now", STATE, () -> y.parent(2, 1));
        y.parent(1, NONE);
        y.parent(2, 1);
        dueThrow("and now the other", STATE, () -> y.parent(1, 2));
    }

    private static void changesAtAPlace() {
        sentence("26 changes", "The changes at a place");
        WitnessBench x = joined("a b", "a c", "d c", "d b");
        due("no parents", x.changes(0), 0);
        x.parent(1, 0);
        x.parent(2, 1);
        x.parent(3, 2);
        due("a a d d", x.changes(0), 1);
        due("b c c b", x.changes(1), 2);
        WitnessBench all = withAllPlaces("?");
        all.parent(1, 0);
        due("place 0: A alone", all.changes(0), 1);
        due("place 23: C alone", all.changes(23), 0);
        due("place 7: both", all.changes(7), 0);
    }

    private static void changesAtAll() {
        sentence("26 changes", "at all places together (place = NONE).");
        due("no places", new WitnessBench().changes(NONE), 0);
        WitnessBench x = withAllPlaces("?");
        due("no parents", x.changes(NONE), 0);
        x.parent(1, 0);
        due("A and B share three of seventeen", x.changes(NONE), 14);
        x.parent(2, 1);
        due("and B and C three of twenty-four", x.changes(NONE), 14 + 7 + 7);
    }

    private static void changesNoPlace() {
        sentence("26 changes", "IndexOutOfBoundsException. (no such place)");
        refusedForAll("changes", INDEX, new int[] {FAR_BELOW, -2, 4, 24, FAR_OFF}, (x, p) -> x.changes(p));
        refused("no places", INDEX, WitnessBench::new, x -> x.changes(0));
        WitnessBench all = withAllPlaces("?");
        dueThrow("place 24", INDEX, () -> all.changes(24));
    }
}
