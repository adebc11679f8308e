/** Each promise of the document: ordinary inputs, the edges that it names, and wrong inputs. */
public final class PromiseTest extends TestTools {
    public static void main(String[] args) {
        newObject();
        typeAndCut();
        wordCall();
        ruleCall();
        formsByRules();
        equateCall();
        chainsOfEquality();
        distanceCall();
        joinCosts();
        joinTies();
        joinLimits();
        retractCall();
        placesAtBeside();
        baseAndChoose();
        apparatusWritten();
        apparatusWithoutBase();
        apparatusSigns();
        apparatusOfManyPlaces();
        outAndAmend();
        rebuildOrdinary();
        rebuildOtherReadings();
        rebuildFaultsAtEachToken();
        rebuildFaultsOfPlaces();
        rebuildFaultsOfWitnesses();
        rebuildLongTokens();
        rebuildTextNow();
        builtCall();
        concordCall();
        blocksCall();
        blocksMaximal();
        parentCall();
        changesCall();
        tellAndExit();
    }

    // Promise 1.

    private static void newObject() {
        part = "1 new object";
        WitnessBench x = new WitnessBench();
        due("NONE", WitnessBench.NONE, -1);
        due("places", x.places(), 0);
        due("apparatus", x.apparatus(false), 0);
        due("apparatus negative", x.apparatus(true), 0);
        due("changes(NONE)", x.changes(NONE), 0);
        due("concord", x.concord(), 0);
        due("built", x.built(0, 0), NONE);
        dueThrow("cut(1)", ARGUMENT, () -> x.cut(1));
        dueThrow("out(0)", INDEX, () -> x.out(0));
        dueThrow("found(0)", INDEX, () -> x.found(0));
        dueThrow("block(0, 0)", INDEX, () -> x.block(0, 0));
        dueThrow("form(0, 0)", INDEX, () -> x.form(0, 0));
        dueThrow("retract", STATE, () -> x.retract());
        dueThrow("join(0)", STATE, () -> x.join(0));
        dueThrow("at(0, 0)", INDEX, () -> x.at(0, 0));
        x.base(NONE);
        x.parent(0, 1);
        due("first word", x.word(3), 1);
        draft(x, "a");
        due("first rule", x.rule(1), 1);
        witness(x, 0, "b");
        due("first equality", x.equate(0, 0, 0, 0), 1);
    }

    // Promises 2 and 3.

    private static void typeAndCut() {
        part = "2 type, 3 cut";
        WitnessBench x = new WitnessBench();
        due("type a", x.type('a'), 1);
        due("type z", x.type('z'), 2);
        for (char c : new char[] {'`', '{', 'A', 'Z', '0', ' ', '\n', (char) 0, (char) 255, (char) 353, (char) 65535}) {
            dueThrow("type " + (int) c, ARGUMENT, () -> x.type(c));
        }
        for (int n = 3; n <= 8; n++) {
            due("type", x.type('m'), n);
        }
        dueThrow("ninth", STATE, () -> x.type('m'));
        dueThrow("ninth, not a letter", ARGUMENT, () -> x.type('M'));
        dueThrow("cut(9)", ARGUMENT, () -> x.cut(9));
        dueThrow("cut(-1)", ARGUMENT, () -> x.cut(-1));
        dueThrow("cut(least)", ARGUMENT, () -> x.cut(Integer.MIN_VALUE));
        x.cut(8);
        dueThrow("still full", STATE, () -> x.type('m'));
        x.cut(2);
        dueThrow("cut(3)", ARGUMENT, () -> x.cut(3));
        due("type behind cut", x.type('b'), 3);
        due("word azb", x.word(0), 1);
        witness(x, 1, "azb");
        due("the first letters were kept", x.distance(0, 0, 1, 0), 0);
        x.type('q');
        x.cut(0);
        due("empty", x.type('a'), 1);
    }

    // Promise 4.

    private static void wordCall() {
        part = "4 word";
        WitnessBench x = new WitnessBench();
        draft(x, "abcdef");
        due("six letters", x.word(0), 1);
        due("draft is empty then: a gap", x.word(0), 2);
        due("gap", x.form(0, 1), NONE);
        due("six", x.form(0, 0), 6);
        draft(x, "abcdefg");
        dueThrow("seven letters", ARGUMENT, () -> x.word(0));
        dueThrow("no witness 4", INDEX, () -> x.word(4));
        dueThrow("no witness -1", INDEX, () -> x.word(-1));
        due("draft as before", x.type('h'), 8);
        x.cut(1);
        due("other witness", x.word(3), 1);
        for (int n = 3; n <= 10; n++) {
            draft(x, "a");
            due("word", x.word(0), n);
        }
        draft(x, "a");
        dueThrow("eleventh", UNSUPPORTED, () -> x.word(0));
        draft(x, "abcdefg");
        dueThrow("eleventh, too long", ARGUMENT, () -> x.word(0));
        x.join(0);
        dueThrow("joined, too long", STATE, () -> x.word(0));
        dueThrow("joined nine letters", INDEX, () -> x.word(FAR_OFF));
        x.retract();
        x.cut(2);
        dueThrow("retracted, but full", UNSUPPORTED, () -> x.word(0));
        due("draft as before", x.type('c'), 3);
        x.join(3);
        dueThrow("joined", STATE, () -> x.word(3));
        x.retract();
        due("joined no more", x.word(3), 2);
    }

    // Promise 5.

    private static void ruleCall() {
        part = "5 rule";
        WitnessBench x = new WitnessBench();
        dueThrow("empty draft", ARGUMENT, () -> x.rule(1));
        draft(x, "abc");
        dueThrow("rule(0)", ARGUMENT, () -> x.rule(0));
        dueThrow("rule(-1)", ARGUMENT, () -> x.rule(-1));
        dueThrow("rule(far)", ARGUMENT, () -> x.rule(FAR_OFF));
        due("rule(1), two on the right", x.rule(1), 1);
        due("draft is empty then", x.type('a'), 1);
        dueThrow("too short for two", ARGUMENT, () -> x.rule(2));
        draft(x, "abcd");
        dueThrow("rule(1) of four", ARGUMENT, () -> x.rule(1));
        dueThrow("rule(4) of four", ARGUMENT, () -> x.rule(4));
        due("rule(2) of four", x.rule(2), 2);
        draft(x, "abcdef");
        dueThrow("rule(3) of six", ARGUMENT, () -> x.rule(3));
        x.cut(5);
        due("rule(3) of five", x.rule(3), 3);
        draft(x, "abc");
        due("rule(3) of three", x.rule(3), 4);
        for (int n = 5; n <= 8; n++) {
            draft(x, "z");
            due("rule(1) of one", x.rule(1), n);
        }
        draft(x, "zy");
        dueThrow("ninth", UNSUPPORTED, () -> x.rule(1));
        dueThrow("ninth, and wrong", ARGUMENT, () -> x.rule(3));
        due("draft as before", x.type('a'), 3);
    }

    private static void formsByRules() {
        part = "5 rule, 7 form: forms";
        WitnessBench x = bench("abcab aab b ? abc", "xyab xab x ? q");
        due("no rules", x.form(0, 0), 5);
        rule(x, "ab", "x");
        due("abcab is xcx", x.form(0, 0), 3);
        due("aab is ax, from the left", x.form(0, 1), 2);
        rule(x, "abc", "q");
        due("the longest left side: abcab is qx", x.form(0, 0), 2);
        due("abc is q", x.distance(0, 4, 1, 4), 0);
        rule(x, "ab", "yy");
        due("of several the oldest", x.form(0, 1), 2);
        rule(x, "x", "ab");
        due("what a rule gives is not gone over: aab is ax", x.form(0, 1), 2);
        due("x is ab", x.form(1, 2), 2);
        due("xyab is abyx", x.form(1, 0), 4);
        due("xab is abx, and words of old", x.form(1, 1), 3);
        rule(x, "b", "");
        due("b has a form without letters", x.form(0, 2), 0);
        due("a gap stays one", x.form(0, 3), NONE);
        rule(x, "a", "aa");
        witness(x, 2, "aaaaaa bbb");
        due("twelve letters", x.form(2, 0), 12);
        due("none", x.form(2, 1), 0);
        due("aab is aax, not aaaax: rules go by places in the word", x.form(0, 1), 3);
        dueThrow("no word", INDEX, () -> x.form(2, 2));
        dueThrow("no word -1", INDEX, () -> x.form(2, -1));
        dueThrow("no witness", INDEX, () -> x.form(4, 0));
        dueThrow("no witness -1", INDEX, () -> x.form(-1, 0));
        WitnessBench y = bench("abab ba");
        rule(y, "aba", "z");
        due("abab is zb", y.form(0, 0), 2);
        rule(y, "bab", "qq");
        due("still zb", y.form(0, 0), 2);
        rule(y, "bac", "");
        due("a left side beyond the word's end does not stand there", y.form(0, 1), 2);
    }

    // Promise 6.

    private static void equateCall() {
        part = "6 equate";
        WitnessBench x = bench("a b ?", "c d e f");
        due("first", x.equate(0, 0, 1, 0), 1);
        due("twice counts", x.equate(0, 0, 1, 0), 2);
        due("with itself", x.equate(0, 0, 0, 0), 3);
        dueThrow("gap first", ARGUMENT, () -> x.equate(0, 2, 1, 0));
        dueThrow("gap second", ARGUMENT, () -> x.equate(1, 0, 0, 2));
        dueThrow("no word", INDEX, () -> x.equate(0, 3, 1, 0));
        dueThrow("no word second", INDEX, () -> x.equate(0, 2, 1, 4));
        dueThrow("no witness", INDEX, () -> x.equate(0, 0, 4, 0));
        dueThrow("no witness first", INDEX, () -> x.equate(-1, 0, 0, 0));
        dueThrow("no words at all", INDEX, () -> x.equate(2, 0, 0, 0));
        due("what threw was not counted", x.equate(1, 1, 1, 2), 4);
        due("five", x.equate(1, 2, 1, 3), 5);
        due("six", x.equate(0, 1, 0, 1), 6);
        dueThrow("seven", UNSUPPORTED, () -> x.equate(0, 0, 0, 1));
        dueThrow("seven, with a gap", ARGUMENT, () -> x.equate(0, 0, 0, 2));
        due("seven did not count", x.distance(0, 0, 0, 1), 2);
        rule(x, "a", "");
        WitnessBench y = bench("b c");
        rule(y, "b", "");
        due("a form without letters is no gap", y.equate(0, 0, 0, 1), 1);
        due("equal", y.distance(0, 0, 0, 1), 0);
    }

    private static void chainsOfEquality() {
        part = "6 equate: chains";
        WitnessBench x = bench("aa bb cc dd", "aa bb cc dd", "ee ff ?");
        x.equate(0, 0, 1, 1);
        due("equated", x.distance(0, 0, 1, 1), 0);
        due("alike with both", x.distance(1, 0, 0, 1), 0);
        due("not equal", x.distance(0, 0, 0, 2), 4);
        x.equate(1, 2, 0, 3);
        x.equate(0, 1, 1, 2);
        due("chain of three", x.distance(0, 0, 1, 3), 0);
        due("outside", x.distance(0, 0, 2, 0), 4);
        rule(x, "ee", "dd");
        due("a rule makes more chains", x.distance(0, 0, 2, 0), 0);
        rule(x, "dd", "gg");
        due("and breaks them: ee stays dd, dd is gg", x.distance(2, 0, 0, 3), 4);
        due("the equality itself holds", x.distance(0, 3, 1, 2), 0);
        witness(x, 3, "cc");
        due("words that come later", x.distance(3, 0, 0, 0), 0);
        due("gaps equal gaps alone", x.distance(2, 2, 0, 0), 4);

        WitnessBench y = bench("p", "aa bb");
        y.equate(1, 0, 1, 1);
        rule(y, "z", "");
        due("equalities hold when rules come", y.distance(1, 0, 1, 1), 0);
        due("and no others", y.distance(0, 0, 1, 0), 4);
        due("and no others", y.distance(0, 0, 1, 1), 4);
    }

    // Promise 8.

    private static void distanceCall() {
        part = "8 distance";
        WitnessBench x = bench("abc abd acb bc abcd ? ?", "abcdef ghijkl a aaaaaa b");
        due("same", x.distance(0, 0, 0, 0), 0);
        due("changed", x.distance(0, 0, 0, 1), 2);
        due("two", x.distance(0, 0, 0, 2), 4);
        due("left out", x.distance(0, 0, 0, 3), 2);
        due("put in", x.distance(0, 0, 0, 4), 2);
        due("in front and behind", x.distance(0, 3, 0, 4), 4);
        due("shifted, not changed letter by letter", x.distance(0, 4, 0, 3), 4);
        due("gap and word", x.distance(0, 5, 0, 0), 4);
        due("word and gap", x.distance(1, 1, 0, 5), 4);
        due("gap and gap", x.distance(0, 5, 0, 6), 0);
        due("six changed", x.distance(1, 0, 1, 1), 12);
        due("five put in", x.distance(1, 2, 1, 3), 10);
        rule(x, "a", "aa");
        due("at most 12", x.distance(1, 3, 1, 4), 12);
        due("long and long", x.distance(1, 3, 1, 1), 12);
        rule(x, "b", "");
        due("gap and a form without letters", x.distance(0, 5, 1, 4), 4);
        due("a form without letters and another", x.distance(1, 4, 1, 2), 4);
        dueThrow("no word", INDEX, () -> x.distance(0, 7, 0, 0));
        dueThrow("no word second", INDEX, () -> x.distance(0, 0, 0, 7));
        dueThrow("no witness", INDEX, () -> x.distance(0, 0, 4, 0));
        dueThrow("no witness first", INDEX, () -> x.distance(-1, 0, 0, 0));
        dueThrow("no words there", INDEX, () -> x.distance(0, 0, 2, 0));
        WitnessBench y = bench("kitten sittin", "sating");
        due("kitten, sittin", y.distance(0, 0, 0, 1), 4);
        due("sittin, sating", y.distance(0, 1, 1, 0), 6);
    }

    // Promise 9.

    private static void joinCosts() {
        part = "9 join";
        WitnessBench x = bench("a b c", "a x c d", "b ?", "c");
        due("first", x.join(0), 24);
        due("matched, changed, put in", x.join(1), 10);
        dueText("A", row(x, 0), "012-");
        dueText("B", row(x, 1), "0123");
        due("the least of the distances there, and gaps", x.join(2), 20);
        dueText("C", row(x, 2), "-01-");
        dueThrow("joined", STATE, () -> x.join(2));
        dueThrow("no witness", INDEX, () -> x.join(4));
        dueThrow("no witness -1", INDEX, () -> x.join(-1));
        due("one word", x.join(3), 24);
        dueText("D", row(x, 3), "--0-");

        WitnessBench y = bench("abcdef", "ghijkl", "");
        due("first", y.join(1), 8);
        due("12 is less than 16", y.join(0), 12);
        due("one place", y.places(), 1);
        dueThrow("no words", STATE, () -> y.join(2));

        WitnessBench z = bench("aaa bbb", "ccc ddd");
        z.equate(0, 0, 1, 1);
        z.equate(0, 1, 1, 0);
        z.join(0);
        due("crossed: one matched for nothing, the others apart, or both changed", z.join(1), 12);
        WitnessBench e = bench("aaa bbb", "ccc bbb");
        e.equate(0, 0, 1, 0);
        e.join(0);
        due("equal words cost nothing", e.join(1), 0);

        WitnessBench g = bench("? a", "? b");
        due("gaps are words", g.join(0), 16);
        due("gap to gap costs nothing", g.join(1), 2);
    }

    private static void joinTies() {
        part = "9 join: ties";
        WitnessBench x = bench("a a a", "a");
        x.join(0);
        due("cost", x.join(1), 16);
        dueText("match comes first", row(x, 1), "0--");
        WitnessBench y = bench("a", "a a a");
        y.join(0);
        due("cost", y.join(1), 16);
        dueText("match comes first", row(y, 0), "0--");
        dueText("match comes first", row(y, 1), "012");

        WitnessBench z = bench("abcd x", "efgh x");
        rule(z, "efg", "eh");
        z.join(0);
        due("8 for four changed", z.join(1), 8);
        dueText("matched", row(z, 1), "01");

        WitnessBench p = bench("aaaa bbbb", "bbbb aaaa");
        p.join(0);
        due("8 and 8, or pass, match, put in", p.join(1), 16);
        dueText("matches next, as long as some way does", row(p, 1), "01");
        WitnessBench q = bench("aaaaaa bbbbbb", "bbbbbb aaaaaa");
        q.join(0);
        due("cost", q.join(1), 16);
        dueText("passes before it puts in: A", row(q, 0), "01-");
        dueText("passes before it puts in: B", row(q, 1), "-01");

        WitnessBench r = bench("a aaaaaa b", "a bbbbbb cccccc b");
        r.join(0);
        due("12 and 8", r.join(1), 20);
        dueText("matches before it puts in: A", row(r, 0), "01-2");
        dueText("matches before it puts in: B", row(r, 1), "0123");
    }

    private static void joinLimits() {
        part = "9 join: 24 places";
        // Each witness begins with the last words of the one before, so that its others come behind all places.
        WitnessBench x = bench(far('a', 10), far('f', 10), far('k', 10), far('l', 10));
        due("ten", x.join(0), 80);
        due("five passed, five matched, five put in", x.join(1), 80);
        due("fifteen", x.places(), 15);
        due("ten passed, five put in", x.join(2), 120);
        due("twenty", x.places(), 20);
        due("eleven passed, nine matched, one put in", x.join(3), 96);
        due("twenty-one", x.places(), 21);
        x.retract();
        x.retract();
        x.retract();
        due("ten left", x.places(), 10);

        WitnessBench y = bench(far('a', 10), far('h', 10), far('o', 10), far('w', 3));
        y.join(0);
        y.join(1);
        due("seventeen", y.places(), 17);
        y.join(2);
        due("twenty-four", y.places(), 24);
        y.choose(23, 2);
        int length = y.apparatus(false);
        dueThrow("twenty-five", UNSUPPORTED, () -> y.join(3));
        due("nothing changed", y.places(), 24);
        dueText("nothing changed: C", row(y, 2), "--------------0123456789");
        dueText("nothing changed: D", row(y, 3), "------------------------");
        due("D is not joined", y.beside(3, 0, 3), NONE);
        due("the text is as before", y.apparatus(false), length);
        due("last is C", y.retract(), 2);
        due("now there is room: three put in or matched", y.join(3) > 0 ? 1 : 0, 1);
    }

    // Promise 10.

    private static void retractCall() {
        part = "10 retract";
        WitnessBench x = bench("a b c", "a x c d", "a d");
        x.join(1);
        x.join(0);
        x.join(2);
        due("last", x.retract(), 2);
        dueText("C is out", row(x, 2), "----");
        due("places with words of others stay", x.places(), 4);
        due("then A", x.retract(), 0);
        due("places", x.places(), 4);
        due("then B", x.retract(), 1);
        due("places", x.places(), 0);
        dueThrow("none is joined", STATE, () -> x.retract());
        due("joined again", x.join(0), 24);
        x.join(1);
        x.join(2);
        due("four", x.places(), 4);
        x.retract();
        due("B", x.retract(), 1);
        due("a place with B's word alone goes", x.places(), 3);
        dueText("A", row(x, 0), "012");

        WitnessBench y = bench("b", "a b c", "q");
        y.join(0);
        y.join(1);
        dueText("A", row(y, 0), "-0-");
        y.choose(1, 1);
        y.base(1);
        y.choose(1, 0);
        y.choose(2, 1);
        due("B is retracted", y.retract(), 1);
        dueText("places in front go", row(y, 0), "0");
        due("the choice of A went along: no entry", y.apparatus(false), 0);
        y.choose(0, NONE);
        y.apparatus(false);
        dueText("there is no base then", out(y), "0 -] b A\n");
        y.retract();
        y.join(2);
        due("the first one joined is the base again", y.apparatus(false), 0);

        WitnessBench again = joined("a", "b");
        again.base(1);
        again.retract();
        again.join(1);
        again.apparatus(false);
        dueText("no base any more, also when it is joined again", out(again), "0 -] a A; b B\n");

        WitnessBench z = joined("a", "b");
        z.choose(0, 1);
        z.retract();
        due("no choice any more, the base holds", z.apparatus(false), 0);
        z.join(1);
        z.apparatus(true);
        dueText("nor when it is joined again", out(z), "0 a] b B\n");
        z.base(NONE);
        z.retract();
        z.join(1);
        z.apparatus(true);
        dueText("one that is not the first does not become the base", out(z), "0 -] a A; b B\n");
    }

    // Promises 11, 12, 13.

    private static void placesAtBeside() {
        part = "11 places, 12 at, 13 beside";
        WitnessBench x = bench("a b c", "b c d", "b");
        due("no places", x.places(), 0);
        dueThrow("no place", INDEX, () -> x.at(0, 0));
        due("not joined", x.beside(0, 0, 1), NONE);
        due("not joined, itself", x.beside(0, 0, 0), NONE);
        x.join(0);
        due("other not joined", x.beside(0, 0, 1), NONE);
        due("itself", x.beside(0, 2, 0), 2);
        due("not joined", x.beside(1, 0, 0), NONE);
        x.join(1);
        due("one letter is sooner changed than put in", x.places(), 3);
        WitnessBench y = joined("aaa bbb ccc", "bbb ccc ddd", "", "bbb");
        due("four", y.places(), 4);
        dueText("A", row(y, 0), "012-");
        dueText("B", row(y, 1), "-012");
        dueText("C", row(y, 2), "----");
        dueText("D", row(y, 3), "-0--");
        due("beside", y.beside(0, 1, 1), 0);
        due("beside", y.beside(1, 1, 0), 2);
        due("nothing there", y.beside(0, 0, 1), NONE);
        due("nothing there", y.beside(1, 2, 0), NONE);
        due("third", y.beside(3, 0, 1), 0);
        due("at the first place", y.beside(0, 0, 0), 0);
        WitnessBench z = joined("a", "a");
        due("at the first place", z.beside(1, 0, 0), 0);
        due("not joined", y.beside(0, 0, 2), NONE);
        dueThrow("no place", INDEX, () -> y.at(4, 0));
        dueThrow("no place -1", INDEX, () -> y.at(-1, 0));
        dueThrow("no witness", INDEX, () -> y.at(0, 4));
        dueThrow("no witness -1", INDEX, () -> y.at(0, -1));
        dueThrow("no word", INDEX, () -> y.beside(0, 3, 1));
        dueThrow("no word -1", INDEX, () -> y.beside(0, -1, 1));
        dueThrow("no word of C", INDEX, () -> y.beside(2, 0, 1));
        dueThrow("no witness", INDEX, () -> y.beside(4, 0, 1));
        dueThrow("no witness", INDEX, () -> y.beside(0, 0, 4));
        dueThrow("no witness", INDEX, () -> y.beside(0, 0, NONE));
    }

    // Promises 14, 15.

    private static void baseAndChoose() {
        part = "14 base, 15 choose";
        WitnessBench x = joined("a b", "a c", "d c");
        x.apparatus(true);
        dueText("base A", out(x), "0 a] d C\n1 b] c BC\n");
        x.base(2);
        x.apparatus(true);
        dueText("base C", out(x), "0 d] a AB\n1 c] b A\n");
        x.choose(0, 1);
        x.choose(1, 0);
        x.apparatus(true);
        dueText("chosen", out(x), "0 a] d C\n1 b] c BC\n");
        x.choose(1, NONE);
        x.apparatus(true);
        dueText("chosen no more", out(x), "0 a] d C\n1 c] b A\n");
        dueThrow("not joined", STATE, () -> x.base(3));
        dueThrow("no witness", INDEX, () -> x.base(4));
        dueThrow("no witness", INDEX, () -> x.base(-2));
        dueThrow("not joined", STATE, () -> x.choose(0, 3));
        dueThrow("no witness", INDEX, () -> x.choose(0, 4));
        dueThrow("no witness", INDEX, () -> x.choose(0, -2));
        dueThrow("no place", INDEX, () -> x.choose(2, 0));
        dueThrow("no place", INDEX, () -> x.choose(-1, 0));
        dueThrow("no place, not joined", INDEX, () -> x.choose(2, 3));
        dueThrow("no place, none", INDEX, () -> x.choose(2, NONE));
        x.apparatus(true);
        dueText("what threw changed nothing", out(x), "0 a] d C\n1 c] b A\n");
        x.base(2);
        x.apparatus(true);
        dueText("no place has a choice then", out(x), "0 d] a AB\n1 c] b A\n");
        x.choose(0, 0);
        x.base(NONE);
        x.apparatus(true);
        dueText("no base, no choice", out(x), "0 -] a AB; d C\n1 -] b A; c BC\n");
        x.choose(1, 1);
        x.apparatus(true);
        dueText("a choice without a base", out(x), "0 -] a AB; d C\n1 c] b A\n");

        WitnessBench y = bench("b c", "a b c");
        y.join(0);
        y.choose(1, 0);
        y.base(NONE);
        y.choose(1, 0);
        y.join(1);
        y.apparatus(false);
        dueText("a choice goes with its place, a new place has none", out(y), "0 -] - A; a B\n1 -] b AB\n");
        y.base(1);
        y.choose(0, 0);
        y.apparatus(false);
        dueText("a choice that has nothing there", out(y), "0 -] - A; a B\n");
    }

    // Promise 16.

    private static void apparatusWritten() {
        part = "16 apparatus";
        WitnessBench x = joined("ab c", "ab d", "b c", "ab");
        due("positive", x.apparatus(false), out(x).length());
        dueText("positive", out(x), "0 ab] ab ABD; b C\n1 c] c AC; d B; - D\n");
        due("negative", x.apparatus(true), 24);
        dueText("negative", out(x), "0 ab] b C\n1 c] d B; - D\n");
        x.equate(0, 0, 2, 0);
        x.apparatus(true);
        dueText("equal is not alike", out(x), "0 ab] b C\n1 c] d B; - D\n");
        rule(x, "d", "c");
        rule(x, "ab", "b");
        due("alike by rules", x.apparatus(true), 9);
        dueText("alike by rules", out(x), "1 c] - D\n");
        WitnessBench y = joined("", "q", "", "q");
        due("all alike", y.apparatus(false), 0);
        WitnessBench z = bench("a", "b", "a", "b");
        z.join(3);
        z.join(2);
        z.join(1);
        z.join(0);
        z.apparatus(false);
        dueText("in the order of witnesses, not of joining", out(z), "0 b] b BD; a AC\n");
        z.base(NONE);
        z.apparatus(false);
        dueText("by their first witnesses", out(z), "0 -] a AC; b BD\n");
    }

    private static void apparatusWithoutBase() {
        part = "16 apparatus: nothing as the lemma";
        WitnessBench x = joined("a", "a b");
        x.apparatus(false);
        dueText("those who have nothing read as the lemma", out(x), "1 -] - A; b B\n");
        x.apparatus(true);
        dueText("negative", out(x), "1 -] b B\n");
        x.base(NONE);
        x.apparatus(false);
        dueText("no one has nothing at 0", out(x), "0 -] a AB\n1 -] - A; b B\n");
        due("without witnesses", new WitnessBench().apparatus(true), 0);
    }

    private static void apparatusSigns() {
        part = "16 apparatus: signs";
        WitnessBench x = joined("aaa bbb c", "aaa ? c", "aaa z c", "aaa c");
        rule(x, "z", "");
        x.apparatus(false);
        dueText("? . -", out(x), "1 bbb] bbb A; ? B; . C; - D\n");
        x.base(1);
        x.apparatus(true);
        dueText("? as the lemma", out(x), "1 ?] bbb A; . C; - D\n");
        x.base(2);
        x.apparatus(true);
        dueText(". as the lemma", out(x), "1 .] bbb A; ? B; - D\n");
        x.base(3);
        x.apparatus(false);
        dueText("- as the lemma", out(x), "1 -] - D; bbb A; ? B; . C\n");
        rule(x, "b", "");
        x.apparatus(false);
        dueText("forms without letters are alike, gaps are not", out(x), "1 -] - D; . AC; ? B\n");
    }

    private static WitnessBench manyPlaces() {
        WitnessBench x = joined(far('a', 10), far('h', 10), far('o', 10));
        rule(x, "a", "aa");
        rule(x, "b", "bb");
        x.base(NONE);
        return x;
    }

    private static void apparatusOfManyPlaces() {
        part = "16 apparatus: many places, long forms";
        WitnessBench x = manyPlaces();
        due("length", x.apparatus(false), 506);
        dueText("first entries", out(x, 0, 72),
                "0 -] - BC; aaaaaaaaaaaa A\n1 -] - BC; bbbbbbbbbbbb A\n2 -] - BC; cccccc A\n");
        dueText("two digits", out(x, 485, 506), "23 -] - AB; xxxxxx C\n");
        String[] wants = {"aaaaaaaaaaaa bbbbbbbbbbbb " + far('c', 8), far('h', 10), far('o', 10)};
        for (int w = 0; w < 3; w++) {
            WitnessBench z = manyPlaces();
            z.apparatus(w == 1);
            due("rebuild", z.rebuild(w), 10);
            dueText("built " + w, built(z, 10), wants[w]);
        }
        WitnessBench y = joined("aaaaaa", "bbbbbb", "cccccc", "dddddd");
        for (char c = 'a'; c < 'e'; c++) {
            rule(y, "" + c, "" + c + c);
        }
        due("the longest entry: without a base", y.apparatus(false), 79);
        for (int w = 0; w < 4; w++) {
            due("rebuild", y.rebuild(w), 1);
            dueText("built", built(y, 1), "aaaaaaaaaaaa".replace('a', (char) ('a' + w)));
        }
    }

    // Promises 17, 18.

    private static void outAndAmend() {
        part = "17 out, 18 amend";
        WitnessBench x = joined("a", "b");
        dueThrow("nothing yet", INDEX, () -> x.out(0));
        dueThrow("nothing yet", INDEX, () -> x.amend(0, 'a'));
        due("nine", x.apparatus(true), 9);
        due("0", x.out(0), '0');
        due("8", x.out(8), 10);
        dueThrow("behind", INDEX, () -> x.out(9));
        dueThrow("before", INDEX, () -> x.out(-1));
        dueThrow("far", INDEX, () -> x.out(FAR_OFF));
        dueThrow("behind", INDEX, () -> x.amend(9, 'a'));
        dueThrow("before", INDEX, () -> x.amend(-1, 'a'));
        x.amend(8, (char) 65535);
        x.amend(0, (char) 0);
        due("any character", x.out(8), 65535);
        due("any character", x.out(0), 0);
        dueText("others as before", out(x).substring(1, 8), " a] b B");
        due("written anew", x.apparatus(true), 9);
        dueText("written anew", out(x), "0 a] b B\n");
        x.base(1);
        x.retract();
        dueText("OUT stays", out(x), "0 a] b B\n");
        due("shorter", x.apparatus(true), 9);
        x.base(0);
        due("empty", x.apparatus(false), 0);
        dueThrow("empty again", INDEX, () -> x.out(0));
    }

    // Promise 19.

    private static void rebuildOrdinary() {
        part = "19 rebuild";
        WitnessBench x = joined("ab c ? z", "ab d z", "ab", "");
        rule(x, "z", "");
        for (int round = 0; round < 4; round++) {
            x.base(round - 1);
            x.apparatus(round % 2 == 0);
            due("A", x.rebuild(0), 4);
            dueText("A", built(x, 4), "ab c ? ");
            due("B", x.rebuild(1), 3);
            dueText("B", built(x, 3), "ab d ");
            due("C", x.rebuild(2), 1);
            dueText("C", built(x, 1), "ab");
        }
        dueThrow("not joined", STATE, () -> x.rebuild(3));
        dueThrow("no witness", INDEX, () -> x.rebuild(4));
        dueThrow("no witness", INDEX, () -> x.rebuild(NONE));
        dueText("what threw changed nothing", built(x, 1), "ab");
        due("no second form", x.built(1, 0), NONE);

        WitnessBench y = joined("a b", "a");
        due("an empty apparatus is right: the lemmas", y.rebuild(1), 2);
        dueText("the lemmas", built(y, 2), "a b");
        y.base(1);
        due("what is nothing is left out", y.rebuild(0), 1);
        y.base(NONE);
        due("without a base", y.rebuild(0), 0);
        due("nothing built", y.built(0, 0), NONE);
    }

    private static void rebuildOtherReadings() {
        part = "19 rebuild: right, but not as written";
        WitnessBench x = joined("ab", "c", "c");
        due("length", x.apparatus(true), 11);
        overwrite(x, "0 ab] ab B\n");
        due("a group that reads as the lemma", x.rebuild(1), 1);
        dueText("B", built(x, 1), "ab");
        due("stands in no group", x.rebuild(2), 1);
        dueText("C has the lemma", built(x, 1), "ab");
        overwrite(x, "0 ab] ? AC\n");
        due("gap", x.rebuild(0), 1);
        due("gap", x.built(0, 0), 63);
        due("gap", x.built(0, 1), NONE);
        overwrite(x, "0 ab] . AC\n");
        due("no letters", x.rebuild(2), 1);
        due("no letters", x.built(0, 0), NONE);
        overwrite(x, "0 ab] - AC\n");
        due("nothing", x.rebuild(2), 0);
        due("nothing", x.built(0, 0), NONE);
        due("others have the lemma", x.rebuild(1), 1);
        overwrite(x, "0 ab] - ABC");
        due("the end is missing", x.rebuild(2), -111);
        WitnessBench y = joined("ab", "c", "d");
        due("length", y.apparatus(false), 21);
        overwrite(y, "0 ab] x C; x A; q B\n ");
        due("a space behind the end", y.rebuild(0), -120);
        overwrite(y, "0 ab] xx C; x A; x B\n");
        due("the same reading twice, groups in any order", y.rebuild(1), 1);
        dueText("B", built(y, 1), "x");
        due("C", y.rebuild(2), 1);
        dueText("C", built(y, 1), "xx");
        due("A", y.rebuild(0), 1);
        dueText("A", built(y, 1), "x");
    }

    private static void rebuildFaultsAtEachToken() {
        part = "19 rebuild: faults at tokens";
        WitnessBench x = joined("ab c", "ab d", "bc c");
        x.apparatus(false);
        String right = "0 ab] ab AB; bc C\n1 c] c AC; d B\n";
        dueText("OUT", out(x), right);
        int[] starts = {0, 1, 2, 2, 4, 5, 6, 6, 8, 9, 9, 11, 12, 13, 13, 15, 16, 17, 18, 19, 20, 21, 22, 23, 24, 25, 25,
            27, 28, 29, 30, 31, 32};
        for (int k = 0; k < right.length(); k++) {
            x.amend(k, '#');
            // A token that is cut short may still stand there; then the character itself is at fault.
            boolean cutShort = starts[k] != k && !(k == 3);
            due("# at " + k, x.rebuild(0), -100 - (cutShort ? k : starts[k]));
            x.amend(k, right.charAt(k));
        }
        due("right again", x.rebuild(0), 2);
        dueText("what failed changed nothing", built(x, 2), "ab c");
        x.rebuild(2);
        x.amend(0, ' ');
        due("fault", x.rebuild(1), -100);
        dueText("what failed changed nothing", built(x, 2), "bc c");
        x.amend(0, '0');
        x.amend(17, ';');
        due("; for the end: 1 is no space", x.rebuild(1), -118);
        x.amend(17, '\n');
        x.amend(32, ';');
        due("; at the last: more must come", x.rebuild(1), -133);
        x.amend(32, ' ');
        due("no space there", x.rebuild(1), -132);
        x.amend(32, 'Z');
        due("one token BZ", x.rebuild(1), -131);
        x.amend(32, '\n');
        x.amend(7, ' ');
        due("ab A is cut: a second space", x.rebuild(1), -108);
        x.amend(7, '?');
        due("one sign for a reading", x.rebuild(1), -107);
        x.amend(7, 'q');
        due("other letters are fine", x.rebuild(1), 2);
        dueText("aq", built(x, 2), "aq d");
        x.amend(6, 'Q');
        due("capitals are no reading", x.rebuild(1), -106);
        x.amend(6, '5');
        due("digits are no reading", x.rebuild(1), -106);
        x.amend(6, (char) ('a' + 256));
        due("a character far off", x.rebuild(1), -106);
    }

    private static void rebuildFaultsOfPlaces() {
        part = "19 rebuild: faults of places";
        WitnessBench x = joined("a b c", "a d e");
        x.apparatus(true);
        dueText("OUT", out(x), "1 b] d B\n2 c] e B\n");
        x.amend(9, '1');
        due("the same place again", x.rebuild(0), -109);
        x.amend(9, '0');
        due("a place before", x.rebuild(0), -109);
        x.amend(9, '3');
        due("no such place", x.rebuild(0), -109);
        x.amend(9, '2');
        x.amend(0, '0');
        due("the lemma of 0 is a", x.rebuild(0), -102);
        x.amend(2, 'a');
        due("place 0, and 1 has none", x.rebuild(1), 3);
        dueText("place 0, and 1 has none", built(x, 3), "d b e");
        x.amend(0, '2');
        x.amend(2, 'c');
        due("2 and 2", x.rebuild(1), -109);

        WitnessBench y = joined(far('a', 10) , far('h', 10));
        due("17 places", y.places(), 17);
        y.apparatus(true);
        String text = out(y);
        int ten = text.indexOf("\n10 ") + 1;
        y.amend(ten, '0');
        due("00", y.rebuild(0), -100 - ten);
        y.amend(ten + 1, '9');
        due("09", y.rebuild(0), -100 - ten);
        y.amend(ten, '1');
        y.amend(ten + 1, '7');
        due("17", y.rebuild(0), -100 - ten);
        y.amend(ten + 1, '6');
        due("16 has the same lemma, but then 11", y.rebuild(0), -100 - text.indexOf("\n11 ") - 1);
        y.amend(ten + 1, '0');
        due("right again", y.rebuild(0), 10);
        y.amend(ten + 2, '1');
        due("101: a token has two digits at most", y.rebuild(0), -100 - ten - 2);
        y.amend(ten + 1, '7');
        due("171: there is no place 17", y.rebuild(0), -100 - ten);
    }

    private static void rebuildFaultsOfWitnesses() {
        part = "19 rebuild: faults of witnesses";
        WitnessBench x = joined("a", "b", "b", "");
        x.apparatus(true);
        dueText("OUT", out(x), "0 a] b BC\n");
        String[] faulty = {"CB", "BB", "BD", "DE", "AD", "BZ", "CA"};
        for (String pair : faulty) {
            overwrite(x, "0 a] b " + pair + "\n");
            due(pair, x.rebuild(0), -107);
        }
        overwrite(x, "0 a] b AC\n");
        due("AC", x.rebuild(0), 1);
        overwrite(x, "0 a] b  C\n");
        due("none", x.rebuild(0), -107);
        overwrite(x, "0 a] bb \n ");
        due("no witnesses at all", x.rebuild(0), -108);
        overwrite(x, "0 a] b bC\n");
        due("small", x.rebuild(0), -107);
        x.apparatus(false);
        dueText("OUT", out(x), "0 a] a A; b BC\n");
        overwrite(x, "0 a] a B; b BC\n");
        due("twice in an entry", x.rebuild(0), -112);
        overwrite(x, "0 a] a B; b AC\n");
        due("in any order of groups", x.rebuild(0), 1);
        dueText("A", built(x, 1), "b");
        overwrite(x, "0 a] a C; b AC\n");
        due("twice in an entry, second letter", x.rebuild(0), -112);
        overwrite(x, "0 a] a ABC;    ");
        due("another group, without a reading", x.rebuild(0), -112);
        overwrite(x, "0 a] a ABC; aa ");
        due("another group: more must come", x.rebuild(0), -115);
    }

    private static void overwriteFails(WitnessBench x, String text, int fault) {
        overwrite(x, text);
        due(text.replace('\n', '|'), x.rebuild(0), -100 - fault);
    }

    private static void rebuildLongTokens() {
        part = "19 rebuild: long tokens";
        WitnessBench x = joined("a", "a", "a", "a");
        x.base(NONE);
        x.apparatus(true);
        dueText("OUT", out(x), "0 -] a ABCD\n");
        overwriteFails(x, "0 -] a ABCDA", 11);
        overwriteFails(x, "0 -] a ABDCE", 7);
        overwriteFails(x, "0 -] a ABCD;", 12);
        WitnessBench four = joined("aaaaaa", "b", "c", "d");
        four.base(NONE);
        four.apparatus(true);
        dueText("OUT", out(four), "0 -] aaaaaa A; b B; c C; d D\n");
        overwriteFails(four, "0 -] a A; b B; c C; d D; e A\n", 27);
        overwriteFails(four, "0 -] a A; b B; c C; d D\n0 -] ", 24);
        part = "19 rebuild: the end of a shorter OUT";
        WitnessBench shorter = joined("a", "b", "b");
        shorter.apparatus(false);
        dueText("OUT", out(shorter), "0 a] a A; b BC\n");
        shorter.apparatus(true);
        overwriteFails(shorter, "0 a] b B; ", 10);
        part = "19 rebuild: long tokens";
        WitnessBench y = joined("aaaaaa", "b");
        rule(y, "a", "ab");
        y.apparatus(true);
        dueText("OUT", out(y), "0 abababababab] b B\n");
        overwriteFails(y, "0 abababababaa] b B\n", 2);
        overwriteFails(y, "0 ababababababa b B\n", 14);
        overwriteFails(y, "0 abababababa]] b B\n", 2);
        y.base(1);
        y.apparatus(true);
        dueText("OUT", out(y), "0 b] abababababab A\n");
        overwrite(y, "0 b] zyxwvutsrqpo A\n");
        due("twelve letters", y.rebuild(0), 1);
        dueText("twelve letters", built(y, 1), "zyxwvutsrqpo");
        overwriteFails(y, "0 b] zyxwvutsrqponA\n", 17);
    }

    private static void rebuildTextNow() {
        part = "19 rebuild: the text now";
        WitnessBench x = joined("ab c", "ab d");
        x.apparatus(true);
        dueText("OUT", out(x), "1 c] d B\n");
        x.base(1);
        due("the lemma is d now", x.rebuild(0), -102);
        x.choose(1, 0);
        due("chosen", x.rebuild(0), 2);
        rule(x, "c", "d");
        due("the lemma's form is d now", x.rebuild(0), -102);
        x.amend(2, 'd');
        due("right", x.rebuild(0), 2);
        dueText("forms of now", built(x, 2), "ab d");
        x.amend(5, 'x');
        due("B", x.rebuild(1), 2);
        dueText("B", built(x, 2), "ab x");
        x.retract();
        due("B is not joined", x.rebuild(0), -107);
        x.retract();
        x.join(1);
        due("A is not joined, B is", x.rebuild(1), 2);
        dueText("B", built(x, 2), "ab x");
    }

    // Promise 20.

    private static void builtCall() {
        part = "20 built";
        WitnessBench x = joined("ab ? z");
        rule(x, "z", "");
        due("nothing yet", x.built(0, 0), NONE);
        due("rebuild", x.rebuild(0), 3);
        due("a", x.built(0, 0), 'a');
        due("b", x.built(0, 1), 'b');
        due("no such letter", x.built(0, 2), NONE);
        due("no such letter", x.built(0, -1), NONE);
        due("no such letter", x.built(0, FAR_OFF), NONE);
        due("gap", x.built(1, 0), 63);
        due("gap, 1", x.built(1, 1), NONE);
        due("gap, -1", x.built(1, -1), NONE);
        due("without letters", x.built(2, 0), NONE);
        due("no such form", x.built(3, 0), NONE);
        due("no such form", x.built(-1, 0), NONE);
        due("no such form", x.built(FAR_OFF, FAR_OFF), NONE);
        due("no such form", x.built(Integer.MIN_VALUE, Integer.MIN_VALUE), NONE);
        rule(x, "a", "q");
        x.retract();
        due("it stays", x.built(0, 0), 'a');
        x.join(0);
        x.rebuild(0);
        due("anew", x.built(0, 0), 'q');
    }

    // Promises 21, 22.

    private static void concordCall() {
        part = "21 concord, 22 found";
        WitnessBench x = bench("ab c ?", "c ab ?", "", "c q");
        draft(x, "c");
        due("c", x.concord(), 3);
        dueText("witness by witness", found(x, 3), "1 100 300");
        dueThrow("no fourth", INDEX, () -> x.found(3));
        dueThrow("before", INDEX, () -> x.found(-1));
        due("the draft stays", x.type('c'), 2);
        WitnessBench lone = bench("k", "l");
        draft(lone, "k");
        due("the very first word", lone.concord(), 1);
        due("the very first word", lone.found(0), 0);
        due("cc", x.concord(), 0);
        dueThrow("none", INDEX, () -> x.found(0));
        x.cut(0);
        due("gaps", x.concord(), 2);
        dueText("gaps", found(x, 2), "2 102");
        x.equate(0, 0, 3, 1);
        draft(x, "q");
        due("equal ones", x.concord(), 3);
        dueText("equal ones", found(x, 3), "0 101 301");
        witness(x, 2, "q");
        dueText("what was found stays", found(x, 3), "0 101 301");
        draft(x, "q");
        due("anew", x.concord(), 4);
        dueText("anew", found(x, 4), "0 101 200 301");
        rule(x, "q", "");
        rule(x, "z", "");
        draft(x, "zzzzzzzz");
        due("eight letters, a form without letters", x.concord(), 4);
        draft(x, "");
        due("gaps are not alike with that", x.concord(), 2);
        rule(x, "a", "bb");
        draft(x, "aaaaaaaa");
        due("sixteen letters", x.concord(), 0);
        witness(x, 2, "aaaaaa");
        draft(x, "aaaaaabb");
        due("fourteen", x.concord(), 0);
        draft(x, "aaaaaaa");
        due("its first twelve are alike with a word, it is not", x.concord(), 0);
        draft(x, "aaaaabb");
        due("twelve", x.concord(), 1);
        due("found", x.found(0), 201);
        WitnessBench y = bench(far('a', 10).replaceAll("[a-z]+", "a"), far('a', 10).replaceAll("[a-z]+", "a"),
                far('a', 10).replaceAll("[a-z]+", "a"), far('a', 10).replaceAll("[a-z]+", "a"));
        draft(y, "a");
        due("all forty", y.concord(), 40);
        due("the last", y.found(39), 309);
        dueThrow("no more", INDEX, () -> y.found(40));
    }

    // Promises 23, 24.

    private static void blocksCall() {
        part = "23 blocks, 24 block";
        WitnessBench x = bench("a b c d e f", "d e f a b c", "a b", "a");
        x.join(0);
        dueThrow("not joined", STATE, () -> x.blocks(0, 1));
        dueThrow("not joined", STATE, () -> x.blocks(1, 0));
        dueThrow("the same, not joined", ARGUMENT, () -> x.blocks(1, 1));
        dueThrow("no witness", INDEX, () -> x.blocks(4, 4));
        dueThrow("no witness", INDEX, () -> x.blocks(0, NONE));
        dueThrow("no witness", INDEX, () -> x.blocks(4, 0));
        dueThrow("no witness", INDEX, () -> x.blocks(NONE, 0));
        x.join(1);
        due("two", x.blocks(0, 1), 2);
        dueText("two", blocks(x, 2), "0,3,3 3,0,3");
        due("the other way round", x.blocks(1, 0), 2);
        dueThrow("no third", INDEX, () -> x.block(2, 0));
        dueThrow("before", INDEX, () -> x.block(-1, 0));
        dueThrow("no such what", INDEX, () -> x.block(0, 3));
        dueThrow("no such what", INDEX, () -> x.block(0, -1));
        dueThrow("the same", ARGUMENT, () -> x.blocks(0, 0));
        dueThrow("not joined", STATE, () -> x.blocks(0, 2));
        dueText("what threw changed nothing", blocks(x, 2), "0,3,3 3,0,3");
        x.join(2);
        dueText("C", row(x, 2), "01----");
        due("at one place: none with A", x.blocks(0, 2), 0);
        dueThrow("none", INDEX, () -> x.block(0, 0));
        due("but with B", x.blocks(1, 2), 1);
        dueText("but with B", blocks(x, 1), "3,0,2");
        x.retract();
        x.retract();
        dueText("they stay", blocks(x, 1), "3,0,2");

        WitnessBench y = bench("a b q q", "q q q q a c");
        y.equate(0, 1, 1, 5);
        y.join(0);
        y.join(1);
        due("equal counts, not only alike", y.blocks(0, 1), 3);
        dueText("equal counts, not only alike", blocks(y, 3), "0,4,2 2,0,2 2,1,2");
    }

    private static void blocksMaximal() {
        part = "23 blocks: as long as can be";
        WitnessBench x = bench("p a a a", "a a a");
        x.join(0);
        x.join(1);
        dueText("B", row(x, 1), "-012");
        due("all runs beside the shared places", x.blocks(0, 1), 2);
        dueText("ordered by i, then j", blocks(x, 2), "1,1,2 2,0,2");

        WitnessBench z = bench("aaaaaa bbbbbb ? cccccc dddddd eeeeee", "cccccc dddddd eeeeee aaaaaa bbbbbb ?");
        z.join(0);
        z.join(1);
        due("three words were matched", z.beside(0, 3, 1), 0);
        due("one", z.blocks(0, 1), 1);
        dueText("gaps are in no block", blocks(z, 1), "0,3,2");

        WitnessBench w = bench(far('a', 6), far('c', 6));
        w.join(0);
        w.join(1);
        due("matched all along", w.blocks(0, 1), 0);

        WitnessBench one = bench("a b", "b a");
        one.join(0);
        one.join(1);
        due("one word is no block", one.blocks(0, 1), 0);

        String same = "a a a a a a a a a a";
        WitnessBench all = bench(same, same);
        all.join(0);
        all.join(1);
        due("each other slant is one block", all.blocks(0, 1), 16);
        dueText("first", blocks(all, 1), "0,1,9");
        due("last", all.block(15, 0), 8);
        due("last", all.block(15, 1), 0);
        due("last", all.block(15, 2), 2);
    }

    // Promise 25.

    private static void parentCall() {
        part = "25 parent";
        WitnessBench x = new WitnessBench();
        x.parent(1, 0);
        x.parent(2, 1);
        x.parent(3, 2);
        for (int v = 0; v < 4; v++) {
            int child = v;
            dueThrow("0 below " + v, STATE, () -> x.parent(0, child));
        }
        dueThrow("1 below 3", STATE, () -> x.parent(1, 3));
        dueThrow("no witness", INDEX, () -> x.parent(4, 0));
        dueThrow("no witness", INDEX, () -> x.parent(-1, 0));
        dueThrow("no witness", INDEX, () -> x.parent(0, 4));
        dueThrow("no witness", INDEX, () -> x.parent(0, -2));
        dueThrow("no witness", INDEX, () -> x.parent(4, 4));
        x.parent(2, NONE);
        x.parent(0, 3);
        dueThrow("2 below 1 now", STATE, () -> x.parent(2, 1));
        x.parent(1, 2);
        x.parent(0, NONE);
        x.parent(2, 0);
        dueThrow("0 is above all", STATE, () -> x.parent(0, 1));
    }

    // Promise 26.

    private static void changesCall() {
        part = "26 changes";
        WitnessBench x = joined("a b c", "d b ?", "a e", "d e c");
        due("no parents", x.changes(NONE), 0);
        x.parent(1, 0);
        due("a to d", x.changes(0), 1);
        due("b to b", x.changes(1), 0);
        due("c to a gap", x.changes(2), 0);
        x.parent(2, 1);
        due("a d a", x.changes(0), 2);
        due("b b e", x.changes(1), 1);
        due("c ? nothing", x.changes(2), 1);
        due("sum", x.changes(NONE), 4);
        x.parent(3, 1);
        due("a d a d", x.changes(0), 2);
        due("c ? nothing c", x.changes(2), 1);
        due("b b e e", x.changes(1), 2);
        x.equate(0, 1, 2, 1);
        due("equal counts as the same", x.changes(1), 0);
        due("sum", x.changes(NONE), 3);
        dueThrow("no place", INDEX, () -> x.changes(3));
        dueThrow("no place", INDEX, () -> x.changes(-2));
        dueThrow("no place", INDEX, () -> x.changes(FAR_OFF));
        x.parent(1, NONE);
        due("d a d", x.changes(0), 1);

        WitnessBench y = bench("a", "b", "b", "c");
        y.join(0);
        y.join(1);
        y.join(2);
        y.parent(0, 3);
        y.parent(1, 3);
        y.parent(2, 3);
        due("one that is not joined reads the commonest", y.changes(0), 1);
        y.join(3);
        due("joined, it reads its own", y.changes(0), 3);
        y.retract();
        y.retract();
        y.retract();
        due("one is joined", y.changes(0), 0);

        WitnessBench z = joined("? a", "q a", "? a", "r a");
        z.parent(0, 1);
        z.parent(2, 0);
        z.parent(3, 2);
        due("through two gaps", z.changes(0), 1);
        WitnessBench n = joined("a", "a b", "a", "a b");
        n.parent(1, 0);
        n.parent(2, 0);
        n.parent(3, 2);
        due("nothing is the same as nothing, and other than a word", n.changes(1), 2);
        due("all the same", n.changes(0), 0);
    }
}
