/** Each sentence of the document's "Terms" that names a boundary case has a test of its own here. */
public final class TermsTest extends TestTools {
    public static void main(String[] args) throws IllegalAccessException {
        runAll(TermsTest.class);
    }

    // Witnesses, words, rules, forms.

    private static void witnessesAreFour() {
        sentence("Terms", "WITNESSES are 0 .. 3");
        WitnessBench x = new WitnessBench();
        for (int w = 0; w < 4; w++) {
            x.type('a');
            due("word(" + w + ")", x.word(w), 1);
        }
        for (int w : new int[] {FAR_BELOW, -2, -1, 4, 5, FAR_OFF}) {
            dueThrow("word(" + w + ")", INDEX, () -> x.word(w));
            dueThrow("join(" + w + ")", INDEX, () -> x.join(w));
            dueThrow("form(" + w + ", 0)", INDEX, () -> x.form(w, 0));
        }
        for (int w = 0; w < 4; w++) {
            due("join(" + w + ")", x.join(w), w == 0 ? 8 : 0);
        }
        due("the last of all", x.retract(), 3);
    }

    private static void wordsOfAWitness() {
        sentence("Terms", "each a row of at most 10 WORDS 0, 1, ..");
        for (int w = 0; w < 4; w++) {
            WitnessBench x = bench();
            int witness = w;
            for (int i = 0; i < 10; i++) {
                dueThrow("no word yet", INDEX, () -> x.form(witness, x.concord()));
                due("word", x.word(w), i + 1);
            }
            due("the first", x.form(w, 0), NONE);
            due("the tenth", x.form(w, 9), NONE);
            dueThrow("an eleventh", UNSUPPORTED, () -> x.word(witness));
            dueThrow("number 10", INDEX, () -> x.form(witness, 10));
            dueThrow("number -1", INDEX, () -> x.form(witness, -1));
            due("another witness has room", x.word(3 - w), 1);
        }
    }

    private static void lettersOfAWord() {
        sentence("Terms", "of at most six letters a .. z");
        WitnessBench x = bench("abcdef ghijkl mnopqr stuvwx yz", "z a");
        for (int i = 0; i < 4; i++) {
            due("six letters", x.form(0, i), 6);
        }
        due("one letter", x.form(1, 0), 1);
        draft(x, "abcdefg");
        dueThrow("seven letters", ARGUMENT, () -> x.word(0));
        x.cut(6);
        due("six of them", x.word(0), 6);
        due("six of them", x.distance(0, 0, 0, 5), 0);
    }

    private static void wordWithoutLetters() {
        sentence("Terms", "one without letters is a GAP");
        WitnessBench x = bench("? a ?");
        due("gap", x.form(0, 0), NONE);
        due("no gap", x.form(0, 1), 1);
        due("gap", x.form(0, 2), NONE);
        due("a gap has a place of its own", x.join(0), 24);
        dueText("a gap has a place of its own", row(x, 0), "012");
    }

    private static void sidesOfARule() {
        sentence("Terms", "A RULE has a left side of one to three letters and a right side of at most two.");
        for (int left = 1; left <= 3; left++) {
            for (int right = 0; right <= 2; right++) {
                WitnessBench x = bench("abcx abx ax");
                draft(x, "abcyy".substring(0, left) + "yy".substring(0, right));
                due(left + " to " + right, x.rule(left), 1);
                due("it works", x.form(0, 0), 4 - left + right);
            }
            WitnessBench y = new WitnessBench();
            draft(y, "abcdefgh".substring(0, left + 3));
            int n = left;
            dueThrow(left + " to 3", ARGUMENT, () -> y.rule(n));
        }
        WitnessBench z = new WitnessBench();
        dueThrow("0 to 0", ARGUMENT, () -> z.rule(0));
        draft(z, "ab");
        dueThrow("0 to 2", ARGUMENT, () -> z.rule(0));
        draft(z, "abcd");
        dueThrow("4 to 0", ARGUMENT, () -> z.rule(4));
    }

    private static void formFromTheLeft() {
        sentence("Terms", "The FORM of a word comes from its letters from the left on");
        dueText("aaa", formOf("aaa", "aa>x"), "xa");
        dueText("aaaaa", formOf("aaaaa", "aa>x"), "xxa");
        dueText("an older rule further to the right", formOf("abc", "bc>x", "ab>y"), "yc");
        dueText("a longer one further to the right", formOf("abcd", "bcd>x", "ab>y"), "ycd");
    }

    private static void leftSideStandsThere() {
        sentence("Terms", "of the rules whose left side stands there");
        dueText("it goes on behind the word's end", formOf("ab", "abc>q"), "ab");
        dueText("it is the whole word", formOf("abc", "abc>q"), "q");
        dueText("it is the word's end", formOf("xxxabc", "abc>q"), "xxxq");
        dueText("it is the word's beginning", formOf("abcxxx", "abc>q"), "qxxx");
        dueText("it begins before the word", formOf("bc", "abc>q"), "bc");
        dueText("its last letter differs", formOf("abd", "abc>q"), "abd");
        dueText("twice", formOf("abcabc", "abc>qq"), "qqqq");
    }

    private static void longestLeftSide() {
        sentence("Terms", "the one with the longest left side");
        String[][] orders = {{"a>w", "ab>v", "abc>u"}, {"abc>u", "ab>v", "a>w"}, {"ab>v", "abc>u", "a>w"}};
        for (String[] order : orders) {
            dueText("three letters", formOf("abc", order), "u");
            dueText("two letters", formOf("abd", order), "vd");
            dueText("one letter", formOf("ad", order), "wd");
            dueText("one after another", formOf("abcaba", order), "uvw");
        }
    }

    private static void oldestRule() {
        sentence("Terms", "(of several the oldest)");
        for (int n = 1; n <= 3; n++) {
            String left = "abc".substring(0, n);
            dueText("the first", formOf(left, left + ">x", left + ">y", left + ">"), "x");
            dueText("another one is the first", formOf(left, left + ">yy", left + ">x"), "yy");
            dueText("one that gives nothing is the first", formOf(left + "q", left + ">", left + ">x"), "q");
        }
        dueText("the first of eight", formOf("a", "a>b", "a>c", "a>d", "a>e", "a>f", "a>g", "a>h", "a>i"), "b");
        dueText("the last of eight", formOf("h", "a>b", "b>c", "c>d", "d>e", "e>f", "f>g", "g>h", "h>i"), "i");
    }

    private static void lettersGoneOver() {
        sentence("Terms", "gives its right side, and its letters are gone over");
        dueText("what was given is not gone over", formOf("ab", "a>b", "bb>x"), "bb");
        dueText("nor with what comes behind it", formOf("aab", "a>b", "bb>x", "ba>y"), "bbb");
        dueText("letters gone over are of no other left side", formOf("bab", "ba>", "ab>x"), "b");
        dueText("nor when the rule gives nothing", formOf("abcd", "bc>", "ad>x"), "ad");
        dueText("it goes on behind them", formOf("ababab", "ab>ba"), "bababa");
    }

    private static void letterKept() {
        sentence("Terms", "if there is none, the letter is kept");
        dueText("no rules at all", formOf("abcabc"), "abcabc");
        dueText("no rule for these letters", formOf("abcabc", "d>", "ac>x"), "abcabc");
        dueText("one between two", formOf("abcabc", "b>"), "acac");
    }

    private static void longestForm() {
        sentence("Terms", "(So a form has at most twelve letters");
        dueText("twelve", formOf("aaaaaa", "a>xy"), "xyxyxyxyxyxy");
        dueText("twelve, of several rules", formOf("abcdef", "a>ab", "b>cd", "c>ef", "d>gh", "e>ij", "f>kl"),
                "abcdefghijkl");
        WitnessBench x = bench("aaaaaa aaaaab");
        rule(x, "a", "ab");
        due("twelve", x.form(0, 0), 12);
        due("eleven", x.form(0, 1), 11);
        due("the twelfth letter counts", x.distance(0, 0, 0, 1), 2);
    }

    private static void formWithoutLetters() {
        sentence("Terms", "and may have none");
        WitnessBench x = bench("a aaaaaa ? b");
        rule(x, "a", "");
        due("one letter", x.form(0, 0), 0);
        due("six letters", x.form(0, 1), 0);
        due("alike", x.distance(0, 0, 0, 1), 0);
        due("one letter put in", x.distance(0, 0, 0, 3), 2);
    }

    private static void formOfAGap() {
        sentence("Terms", "that of a gap is a gap.)");
        WitnessBench x = bench("? ?", "a");
        rule(x, "a", "");
        due("gap", x.form(0, 0), NONE);
        due("no gap", x.form(1, 0), 0);
        due("gaps are alike", x.distance(0, 0, 0, 1), 0);
        due("a form without letters is not alike with a gap", x.distance(0, 0, 1, 0), 4);
    }

    private static void alike() {
        sentence("Terms", "Two words are ALIKE if their forms are the same.");
        WitnessBench x = joined("ab", "ab", "abc", "ba");
        x.apparatus(true);
        dueText("the same; longer; in another order", out(x), "0 ab] abc C; ba D\n");
        rule(x, "abc", "ab");
        rule(x, "ba", "ab");
        due("all alike", x.apparatus(true), 0);
    }

    // Equalities and distances.

    private static void equalIfAlike() {
        sentence("Terms", "Two words are EQUAL if they are alike");
        WitnessBench x = bench("a b", "a c");
        due("alike", x.distance(0, 0, 1, 0), 0);
        due("itself", x.distance(0, 1, 0, 1), 0);
        due("not alike", x.distance(0, 1, 1, 1), 2);
    }

    private static void equalByAChain() {
        sentence("Terms", "if a chain of words leads from one to the other, each one alike with the next or made equal"
                + " with it by an equality.");
        WitnessBench x = bench("aaaa bbbb cccc dddd", "bbbb cccc dddd eeee", "ffff", "aaaa gggg");
        x.equate(0, 0, 0, 1);
        x.equate(1, 0, 1, 1);
        x.equate(0, 2, 1, 2);
        x.equate(0, 3, 1, 3);
        x.equate(2, 0, 1, 3);
        x.equate(3, 0, 2, 0);
        for (int i = 0; i < 4; i++) {
            due("from one end", x.distance(3, 0, 0, i), 0);
            due("from the other end", x.distance(2, 0, 1, i), 0);
        }
        due("one outside the chain", x.distance(3, 1, 3, 0), 8);
        due("one outside the chain", x.distance(2, 0, 3, 1), 8);
    }

    private static void rulesCountForOldWords() {
        sentence("Terms", "(Rules and equalities count for all words, also for those that were there before.)");
        WitnessBench x = bench("ab", "cb", "", "db");
        x.join(0);
        x.join(1);
        due("before", x.distance(0, 0, 1, 0), 2);
        rule(x, "a", "c");
        due("a rule, for words that are joined", x.distance(0, 0, 1, 0), 0);
        due("and in the apparatus", x.apparatus(false), 0);
        x.equate(1, 0, 3, 0);
        due("an equality, over the new form", x.distance(0, 0, 3, 0), 0);
        witness(x, 2, "ab");
        due("and for words that come later", x.distance(2, 0, 3, 0), 0);
        due("and to join", x.join(3), 0);
    }

    private static void distanceOfEqualWords() {
        sentence("Terms", "DISTANCE of two words: 0 if they are equal");
        WitnessBench x = bench("abcdef ghijkl ? ?");
        due("not equal", x.distance(0, 0, 0, 1), 12);
        x.equate(0, 0, 0, 1);
        due("equal, not alike", x.distance(0, 1, 0, 0), 0);
        due("two gaps", x.distance(0, 2, 0, 3), 0);
    }

    private static void distanceOfAGap() {
        sentence("Terms", "else 4 if one is a gap");
        WitnessBench x = bench("? a abcdef z");
        rule(x, "z", "");
        for (int i = 1; i < 4; i++) {
            due("gap first", x.distance(0, 0, 0, i), 4);
            due("gap second", x.distance(0, i, 0, 0), 4);
        }
    }

    private static void distanceByLetters() {
        sentence("Terms", "else twice the least number of letters that must be put in, left out or changed to make one"
                + " form of the other");
        WitnessBench x = bench("abcd bcd abcde axcd bcda dcba", "z");
        int[] want = {0, 2, 2, 2, 4, 8};
        for (int i = 0; i < 6; i++) {
            due("from abcd", x.distance(0, 0, 0, i), want[i]);
            due("to abcd", x.distance(0, i, 0, 0), want[i]);
        }
        rule(x, "z", "");
        due("all put in", x.distance(1, 0, 0, 0), 8);
        due("all left out", x.distance(0, 0, 1, 0), 8);
    }

    private static void distanceAtMost() {
        sentence("Terms", "but at most 12.");
        WitnessBench x = bench("aaaaaa b bbbbba bbbbbb", "cccccc z");
        due("five", x.distance(0, 0, 0, 2), 10);
        due("six", x.distance(0, 0, 0, 3), 12);
        rule(x, "a", "aa");
        rule(x, "z", "");
        due("seven", x.distance(0, 0, 0, 2), 12);
        due("twelve", x.distance(0, 0, 0, 1), 12);
        due("twelve, from a form without letters", x.distance(1, 1, 0, 0), 12);
        due("six, from a form without letters", x.distance(1, 1, 1, 0), 12);
    }

    // Places and joining.

    private static void placesAtMost() {
        sentence("Terms", "PLACES are 0, 1, .., at most 24");
        WitnessBench x = bench(far('a', 10), far('h', 10), far('o', 10), far('x', 2));
        x.join(0);
        x.join(1);
        x.join(2);
        due("24", x.places(), 24);
        due("place 0", x.at(0, 0), 0);
        due("place 23", x.at(23, 2), 9);
        dueThrow("place 24", INDEX, () -> x.at(24, 2));
        dueThrow("25 places", UNSUPPORTED, () -> x.join(3));
        due("24 still", x.places(), 24);
    }

    private static void placesHaveWords() {
        sentence("Terms", "each has a word of some JOINED witnesses, of each at most one.");
        WitnessBench x = joined("a a", "a", "", "a a a");
        dueText("A", row(x, 0), "01-");
        dueText("B", row(x, 1), "0--");
        dueText("C", row(x, 2), "---");
        dueText("D", row(x, 3), "012");
        x.retract();
        dueText("a place of D alone goes", row(x, 0), "01");
    }

    private static void joinGoesOverAll() {
        sentence("Terms", "TO JOIN a witness is to go over all places and all its words in their order");
        WitnessBench x = joined("aaaaaa bbbbbb cccccc");
        witness(x, 1, "cccccc bbbbbb aaaaaa");
        due("words are not crossed: two are put in, one matched, two passed; or one matched between two of 12",
                x.join(1), 24);
        dueText("A", row(x, 0), "012");
        dueText("B", row(x, 1), "012");
        WitnessBench one = bench("a");
        due("no places yet, one word", one.join(0), 8);
        WitnessBench ten = bench(far('a', 10), far('p', 1));
        due("no places yet, ten words", ten.join(0), 80);
        due("ten places, one word: nine are passed", ten.join(1), 84);
    }

    private static void matchedCost() {
        sentence("Terms", "a place and a word are MATCHED (which costs the least of the word's distances to the words"
                + " there)");
        WitnessBench x = joined("abcdef", "ghijkl", "ghijkx");
        witness(x, 3, "ghijkx");
        due("one place", x.places(), 1);
        due("nothing, by the third", x.join(3), 0);
        WitnessBench y = joined("abcdef", "ghijkl");
        witness(y, 2, "ghijkx");
        due("2, by the second", y.join(2), 2);
        WitnessBench z = joined("abcdef", "?");
        witness(z, 2, "ghijkl");
        due("4, by the gap", z.join(2), 4);
        WitnessBench far = joined("abcdef");
        witness(far, 1, "ghijkl");
        due("12 is the dearest, and less than 16", far.join(1), 12);
        due("one place", far.places(), 1);
    }

    private static void passedCost() {
        sentence("Terms", "or a place is PASSED (8)");
        WitnessBench x = joined("aaaaaa bbbbbb cccccc");
        witness(x, 1, "bbbbbb");
        due("two are passed", x.join(1), 16);
        dueText("the first and the last", row(x, 1), "-0-");
    }

    private static void putInCost() {
        sentence("Terms", "or a word is PUT IN (8)");
        WitnessBench x = joined("bbbbbb");
        witness(x, 1, "aaaaaa bbbbbb cccccc");
        due("two are put in", x.join(1), 16);
        dueText("the first and the last", row(x, 0), "-0-");
    }

    private static void putInBeforeTheNextPlace() {
        sentence("Terms", "as a new place with this word alone, in front of the next place that is not gone over yet.");
        WitnessBench x = joined("aaaaaa bbbbbb");
        witness(x, 1, "xxxxxx aaaaaa yyyyyy bbbbbb zzzzzz");
        due("three are put in", x.join(1), 24);
        dueText("in front, between and behind: A", row(x, 0), "-0-1-");
        dueText("in front, between and behind: B", row(x, 1), "01234");
        for (int p = 0; p < 5; p += 2) {
            due("alone", x.at(p, 0), NONE);
        }
    }

    private static void leastCost() {
        sentence("Terms", "It is done with the least cost in all");
        WitnessBench x = joined("aaa bbb ccc");
        witness(x, 1, "bbb ccc ddd");
        due("shifted, 16, and not changed, 18", x.join(1), 16);
        dueText("B", row(x, 1), "-012");
        WitnessBench y = joined("aa bb cc");
        witness(y, 1, "bb cc dd");
        due("changed, 12, and not shifted, 16", y.join(1), 12);
        dueText("B", row(y, 1), "012");
        WitnessBench z = joined("a ab");
        witness(z, 1, "ab");
        due("not the first match, but the cheapest", z.join(1), 8);
        dueText("B", row(z, 1), "-0");
    }

    private static void matchesFirst() {
        sentence("Terms", "of all ways with that: as long as some of them match next, one that does");
        WitnessBench x = joined("aaaa bbbb");
        witness(x, 1, "bbbb aaaa");
        due("8 and 8; or 8, 0, 8", x.join(1), 16);
        dueText("matches both: A", row(x, 0), "01");
        dueText("matches both: B", row(x, 1), "01");
        WitnessBench y = joined("a a a a");
        witness(y, 1, "a a");
        due("cost", y.join(1), 16);
        dueText("the first ones", row(y, 1), "01--");
        WitnessBench z = joined("a a");
        witness(z, 1, "a a a a");
        due("cost", z.join(1), 16);
        dueText("the first ones", row(z, 0), "01--");
    }

    private static void passesNext() {
        sentence("Terms", "else one that passes next, if there is one");
        WitnessBench x = joined("aaaaaa bbbbbb");
        witness(x, 1, "bbbbbb aaaaaa");
        due("pass, match, put in; or put in, match, pass", x.join(1), 16);
        dueText("passes first: A", row(x, 0), "01-");
        dueText("passes first: B", row(x, 1), "-01");
    }

    private static void putsInLast() {
        sentence("Terms", "else one that puts in; and so on.");
        WitnessBench x = joined("bbbbbb cccccc");
        witness(x, 1, "aaaaaa bbbbbb cccccc");
        due("no other way is as cheap", x.join(1), 8);
        dueText("A", row(x, 0), "-01");
        WitnessBench y = joined("aaaaaa bbbbbb ssssss cccccc dddddd");
        witness(y, 1, "bbbbbb aaaaaa ssssss dddddd cccccc");
        due("pass, match, put in, match, and that again", y.join(1), 32);
        dueText("A", row(y, 0), "01-234-");
        dueText("B", row(y, 1), "-012-34");
    }

    // Family and text.

    private static void neverAboveItself() {
        sentence("Terms", "each witness may have another one as its PARENT; never so that one is above itself.");
        WitnessBench x = new WitnessBench();
        for (int w = 0; w < 4; w++) {
            int self = w;
            dueThrow("its own parent", STATE, () -> x.parent(self, self));
        }
        x.parent(3, 2);
        dueThrow("a ring of two", STATE, () -> x.parent(2, 3));
        x.parent(2, 1);
        dueThrow("a ring of three", STATE, () -> x.parent(1, 3));
        x.parent(1, 0);
        dueThrow("a ring of four", STATE, () -> x.parent(0, 3));
        x.parent(3, 0);
        x.parent(2, 3);
        dueThrow("another ring", STATE, () -> x.parent(3, 2));
        x.parent(2, 0);
        x.parent(1, 3);
        x.parent(1, 2);
        dueThrow("0 is above all", STATE, () -> x.parent(0, 1));
    }

    private static void baseOrNone() {
        sentence("Terms", "the BASE is a joined witness, or none");
        WitnessBench x = joined("a", "b");
        x.apparatus(true);
        dueText("A", out(x), "0 a] b B\n");
        x.base(1);
        x.apparatus(true);
        dueText("B", out(x), "0 b] a A\n");
        x.base(NONE);
        x.apparatus(true);
        dueText("none", out(x), "0 -] a A; b B\n");
        dueThrow("one that is not joined", STATE, () -> x.base(2));
    }

    private static void choiceOfAPlace() {
        sentence("Terms", "each place may have a CHOICE, a joined witness.");
        WitnessBench x = joined("a c", "b d");
        x.choose(1, 1);
        x.apparatus(true);
        dueText("the last place alone", out(x), "0 a] b B\n1 d] c A\n");
        x.choose(0, 1);
        x.apparatus(true);
        dueText("the first too", out(x), "0 b] a A\n1 d] c A\n");
        dueThrow("one that is not joined", STATE, () -> x.choose(0, 3));
    }

    private static void lemmaOrNothing() {
        sentence("Terms", "The LEMMA of a place is the word that its choice, or, if it has none, the base has there; or"
                + " nothing.");
        WitnessBench x = joined("a", "a b");
        x.apparatus(true);
        dueText("the base has nothing there", out(x), "1 -] b B\n");
        x.choose(1, 1);
        x.apparatus(true);
        dueText("the choice has a word", out(x), "1 b] - A\n");
        x.base(1);
        x.choose(1, 0);
        x.apparatus(true);
        dueText("the choice has nothing there, though the base has a word", out(x), "1 -] b B\n");
        x.base(NONE);
        x.apparatus(true);
        dueText("neither choice nor base", out(x), "0 -] a AB\n1 -] b B\n");
    }

    // The apparatus, written.

    private static void entriesByRisingPlaces() {
        sentence("Terms", "AN APPARATUS is a row of ENTRIES, with a place each, by rising places.");
        WitnessBench x = joined("a b c d e f g h i j", "k l m n o p q r s t");
        x.apparatus(true);
        dueText("all ten", out(x), "0 a] k B\n1 b] l B\n2 c] m B\n3 d] n B\n4 e] o B\n5 f] p B\n6 g] q B\n7 h] r B\n"
                + "8 i] s B\n9 j] t B\n");
        WitnessBench none = new WitnessBench();
        due("no places, no entries", none.apparatus(false), 0);
    }

    private static void placesOfTwoDigits() {
        sentence("Terms", "An entry is: the place's number");
        WitnessBench x = joined(far('a', 10), far('b', 10));
        x.apparatus(true);
        dueText("0 and 10", out(x), "0 aaaaaa] - B\n10 -] kkkkkk B\n");
        WitnessBench y = joined(far('a', 10), far('h', 10));
        y.base(NONE);
        y.apparatus(true);
        dueText("9 and 10", out(y, 128, 159), "9 -] jjjjjj AB\n10 -] kkkkkk B\n1");
    }

    private static void partsOfAnEntry() {
        sentence("Terms", "a space, the lemma, ], one or more GROUPS with ; between them, and the character 10.");
        WitnessBench x = joined("ab", "c", "d", "e");
        due("one group", joined("ab", "c").apparatus(true), "0 ab] c B\n".length());
        due("three groups", x.apparatus(true), 20);
        dueText("three groups", out(x), "0 ab] c B; d C; e D\n");
        due("the end", x.out(19), 10);
        x.apparatus(false);
        dueText("four groups", out(x), "0 ab] ab A; c B; d C; e D\n");
    }

    private static void witnessesOfAGroup() {
        sentence("Terms", "A group is a space, a READING, a space, and the witnesses that read so, as capital letters (A"
                + " for 0, B for 1, ..) in their order.");
        WitnessBench x = bench("a", "a", "a", "a");
        for (int w = 3; w >= 0; w--) {
            x.join(w);
        }
        x.base(NONE);
        x.apparatus(false);
        dueText("all four, joined the other way round", out(x), "0 -] a ABCD\n");
        WitnessBench y = joined("a", "b", "a", "b");
        y.base(NONE);
        y.apparatus(false);
        dueText("two and two", out(y), "0 -] a AC; b BD\n");
    }

    private static void signsOfReadings() {
        sentence("Terms", "A lemma or reading is written as the letters of its form, as . if it is a word with a form"
                + " without letters, as ? for a gap, as - for nothing.");
        WitnessBench x = joined("aaaaaa bbb", "aaaaaa ?", "aaaaaa z", "aaaaaa");
        rule(x, "z", "");
        rule(x, "a", "ac");
        String[] due = {"1 bbb] ? B; . C; - D\n", "1 ?] bbb A; . C; - D\n", "1 .] bbb A; ? B; - D\n",
            "1 -] bbb A; ? B; . C\n"};
        for (int w = 0; w < 4; w++) {
            x.base(w);
            x.apparatus(true);
            dueText("base " + w, out(x), due[w]);
        }
        x.base(NONE);
        x.apparatus(true);
        dueText("a form of twelve letters", out(x), "0 -] acacacacacac ABCD\n1 -] bbb A; ? B; . C\n");
    }

    private static void entriesWhereSomeDiffer() {
        sentence("Terms", "WRITTEN it has an entry for each place at which some joined witness does not read as the"
                + " lemma");
        WitnessBench x = bench("a b c", "a b d", "e b c", "x y z");
        x.join(0);
        due("one witness alone", x.apparatus(false), 0);
        x.join(1);
        x.join(2);
        x.apparatus(true);
        dueText("the first and the last place; D is not joined", out(x), "0 a] e C\n2 c] d B\n");
        x.base(NONE);
        x.apparatus(true);
        dueText("all, without a lemma", out(x), "0 -] a AB; e C\n1 -] b ABC\n2 -] c AC; d B\n");
    }

    private static void readsAsTheLemma() {
        sentence("Terms", "(alike, or nothing, as that)");
        WitnessBench x = joined("ab", "cb", "?", "ab q");
        x.equate(0, 0, 1, 0);
        rule(x, "d", "");
        x.apparatus(true);
        dueText("equal is not alike; a gap is not nothing; nothing is as nothing", out(x),
                "0 ab] cb B; ? C\n1 -] q D\n");
        rule(x, "cb", "ab");
        x.apparatus(true);
        dueText("alike", out(x), "0 ab] ? C\n1 -] q D\n");
    }

    private static void groupsAreAlike() {
        sentence("Terms", "The groups are of joined witnesses that read alike there (or have nothing there)");
        WitnessBench x = joined("a q", "b", "b q", "a");
        x.apparatus(false);
        dueText("A D, B C; A C, B D", out(x), "0 a] a AD; b BC\n1 q] q AC; - BD\n");
        x.retract();
        x.apparatus(false);
        dueText("D is not joined any more", out(x), "0 a] a A; b BC\n1 q] q AC; - B\n");
    }

    private static void firstGroup() {
        sentence("Terms", "first that of those who read as the lemma (which a NEGATIVE apparatus leaves out)");
        WitnessBench x = joined("a", "b", "c", "b");
        x.base(3);
        x.apparatus(false);
        dueText("written", out(x), "0 b] b BD; a A; c C\n");
        x.apparatus(true);
        dueText("negative", out(x), "0 b] a A; c C\n");
        x.base(NONE);
        x.apparatus(false);
        dueText("no one reads as the lemma", out(x), "0 -] a A; b BD; c C\n");
        x.apparatus(true);
        dueText("nothing to leave out", out(x), "0 -] a A; b BD; c C\n");
    }

    private static void otherGroups() {
        sentence("Terms", "then the others by their first witnesses.");
        WitnessBench x = joined("z", "y", "x", "w");
        x.base(2);
        x.apparatus(true);
        dueText("not by letters", out(x), "0 x] z A; y B; w D\n");
        WitnessBench y = joined("b", "a", "a", "b");
        y.base(NONE);
        y.apparatus(true);
        dueText("not by numbers", out(y), "0 -] b AD; a BC\n");
    }

    // The apparatus, read. Where nothing else is said, A (the base), B and C read "ab c d", and D is not joined.

    private static WitnessBench three(String text) {
        return withOut(text, "ab c d", "ab c d", "ab c d");
    }

    private static void dueRead(String text, String... due) {
        WitnessBench x = three(text);
        for (int w = 0; w < due.length; w++) {
            dueText(text + " for " + w, read(x, w), due[w]);
        }
    }

    private static void dueFault(String text, int at) {
        WitnessBench x = three(text);
        for (int w = 0; w < 3; w++) {
            dueText(text + " for " + w, read(x, w), "fault at " + at);
        }
    }

    private static void readingOfTheGroup() {
        sentence("Terms", "READ for a witness: at each place it has the reading of the group in which it stands");
        dueRead("0 ab] x A; y B; w C\n", "x c d", "y c d", "w c d");
        dueRead("0 ab] x ABC\n2 d] y AC\n", "x c y", "x c d", "x c y");
        dueRead("0 ab] abcdefghijkl B\n", "ab c d", "abcdefghijkl c d", "ab c d");
        dueRead("1 c] ? A; . B; - C\n", "ab ? d", "ab  d", "ab d");
    }

    private static void elseTheLemma() {
        sentence("Terms", "if it stands in none, or the place has no entry, the lemma.");
        dueRead("0 ab] x B\n1 c] y B\n", "ab c d", "x y d", "ab c d");
        WitnessBench x = joined("ab c d", "e f g");
        dueText("OUT is empty", read(x, 1), "ab c d");
        x.choose(1, 1);
        dueText("a chosen lemma", read(x, 0), "ab f d");
        WitnessBench gaps = joined("? z", "a b");
        rule(gaps, "z", "");
        due("two words", gaps.rebuild(1), 2);
        due("a gap as the lemma", gaps.built(0, 0), 63);
        due("a form without letters as the lemma", gaps.built(1, 0), NONE);
    }

    private static void nothingIsLeftOut() {
        sentence("Terms", "What is nothing is left out.");
        dueRead("0 ab] - A\n2 d] - AC\n", "c", "ab c d", "ab c");
        dueRead("0 ab] - ABC\n1 c] - ABC\n2 d] - ABC\n", "", "", "");
        WitnessBench x = joined("a", "a b");
        dueText("a lemma that is nothing", read(x, 1), "a");
        x.base(NONE);
        due("no lemma anywhere", x.rebuild(1), 0);
    }

    private static void rightAsSaid() {
        sentence("Terms", "An apparatus is RIGHT if it is as said (not only as it would be written)");
        dueRead("0 ab] x C; y A; w B\n", "y c d", "w c d", "x c d");
        dueRead("0 ab] x A; x B; x C\n", "x c d", "x c d", "x c d");
        dueRead("0 ab] ab A; ab BC\n", "ab c d", "ab c d", "ab c d");
        dueRead("1 c] x A; c C\n", "ab x d", "ab c d", "ab c d");
        dueRead("0 ab] x A; - B; ab C\n1 c] c ABC\n2 d] ab B\n", "x c d", "c ab", "ab c d");
    }

    private static void placesThatThereAre() {
        sentence("Terms", "with places that there are");
        dueRead("0 ab] x A\n", "x c d");
        dueRead("2 d] xxx A\n", "ab c xxx");
        dueFault("3 d] x A\n", 0);
        dueFault("9 d] x A\n", 0);
        dueFault("10 d] x A\n", 0);
        dueFault("99 d] x A\n", 0);
        dueFault("1 c] x A\n3 d] x A\n", 9);
    }

    private static void needlessNought() {
        sentence("Terms", "(their numbers without a needless 0)");
        dueRead("0 ab] x A\n", "x c d");
        dueFault("00 ab] x A\n", 0);
        dueFault("01 c] x A\n", 0);
        dueFault("000 ab] x A\n", 0);
        dueFault("1 c] x A\n02 d] x A\n", 9);
        dueText("10 needs its 0", read(withOut("10 b] x B\n", "a a a a a a a a a a", "b b b b b b b b b b"), 1),
                "fault at 0");
        WitnessBench x = withOut("10 kkkkkk] x B\n", far('a', 10), far('b', 10));
        dueText("the base has nothing there", read(x, 1), "fault at 3");
        x.base(1);
        dueText("10 needs its 0", read(x, 1), far('b', 9) + " x");
    }

    private static void placesRise() {
        sentence("Terms", "rising strictly");
        dueRead("0 ab] x A\n1 c] y A\n2 d] w A\n", "x y w");
        dueRead("0 ab] x A\n2 d] w A\n", "x c w");
        dueFault("0 ab] x A\n0 ab] y B\n", 10);
        dueFault("2 d] x A\n2 d] y B\n", 9);
        dueFault("1 c] x A\n0 ab] y B\n", 9);
        dueFault("0 ab] x A\n2 d] w A\n1 c] y A\n", 19);
    }

    private static void lemmasOfNow() {
        sentence("Terms", "lemmas that are those of the text now");
        dueFault("0 a] xx A\n", 2);
        dueFault("0 abc] x A\n", 2);
        dueFault("0 ac] x A\n", 2);
        dueFault("0 ?] xx A\n", 2);
        dueFault("0 .] xx A\n", 2);
        dueFault("0 -] xx A\n", 2);
        dueFault("0 ] xxx A\n", 2);
        dueFault("1 c] x A\n2 c] x A\n", 11);
        WitnessBench x = three("1 c] x AB\n");
        rule(x, "c", "y");
        dueText("a rule came", read(x, 0), "fault at 2");
        x.amend(2, 'y');
        dueText("the form of now", read(x, 2), "ab y d");
        x.base(NONE);
        dueText("nothing now", read(x, 0), "fault at 2");
        x.amend(2, '-');
        dueText("nothing now", read(x, 0), "x");
        x.amend(2, 'y');
        x.choose(1, 2);
        dueText("chosen now", read(x, 2), "y");
    }

    private static void witnessesThatAreJoined() {
        sentence("Terms", "witnesses that are joined");
        dueRead("0 ab] x C\n", "ab c d", "ab c d", "x c d");
        dueFault("0 ab] x D\n", 8);
        dueFault("0 ab] x E\n", 8);
        dueFault("0 ab] x Z\n", 8);
        dueFault("0 ab] x ABD\n", 8);
        dueFault("0 ab] x A; y D\n", 13);
        WitnessBench x = three("0 ab] x C\n");
        x.retract();
        dueText("C is joined no more", read(x, 0), "fault at 8");
        x.join(3);
        x.amend(8, 'D');
        dueText("D is joined now", read(x, 0), "ab c d");
    }

    private static void noOneTwice() {
        sentence("Terms", "no one twice in an entry");
        dueFault("0 ab] x BB\n", 8);
        dueFault("0 ab] x A; y A\n", 13);
        dueFault("0 ab] x A; x A\n", 13);
        dueFault("0 ab] x AB; y BC\n", 14);
        dueFault("0 ab] x A; y B; w AC\n", 18);
        dueFault("0 ab] x A; y B; w C; v C\n", 23);
        dueRead("0 ab] x A\n1 c] y A\n", "x y d", "ab c d", "ab c d");
    }

    private static void risingInAGroup() {
        sentence("Terms", "rising in a group.");
        dueRead("0 ab] x ABC\n", "x c d");
        dueRead("0 ab] x AC\n", "x c d");
        dueFault("0 ab] x BA\n", 8);
        dueFault("0 ab] x ACB\n", 8);
        dueFault("0 ab] x CAB\n", 8);
        dueRead("0 ab] x C; y A\n", "y c d", "ab c d", "x c d");
    }

    private static void digitsTogether() {
        sentence("Terms", "digits as long as they go on, at most two");
        dueFault("12 c] x A\n", 0);
        dueFault("1 c1] x A\n", 3);
        dueFault("1 9] xx A\n", 2);
        dueFault("123 c] x A\n", 0);
        dueText("the third digit is a token of its own",
                read(withOut("101 -] x B\n", far('a', 10), far('b', 10)), 1), "fault at 2");
        dueText("two digits are one token", read(withOut("10 -] x B\n", far('a', 10), far('b', 10)), 0),
                "aaaaaa " + far('b', 9));
    }

    private static void smallLettersTogether() {
        sentence("Terms", "small letters, at most twelve");
        dueRead("0 ab] abcdefghijkl A\n", "abcdefghijkl c d");
        dueFault("0 ab] abcdefghijklm A\n", 18);
        dueFault("0 abx] x A\n", 2);
        dueFault("0 abcdefghijklm] x A\n", 2);
        dueFault("0 ab] x ab\n", 8);
        dueFault("ab ab] x A\n", 0);
    }

    private static void capitalLettersTogether() {
        sentence("Terms", "capital letters, at most four");
        dueFault("0 ab] x ABCD\n", 8);
        dueFault("0 ab] x ABCDE\n", 8);
        dueFault("0 AB] x A\n", 2);
        dueFault("0 ab] X A\n", 6);
        WitnessBench x = withOut("0 ab] x ABCD\n", "ab", "ab", "ab");
        x.join(3);
        dueText("four", read(x, 0), "x");
        x.amend(12, 'E');
        dueText("the fifth is a token of its own", read(x, 0), "fault at 12");
        x.amend(12, ' ');
        dueText("no fifth", read(x, 0), "fault at 12");
    }

    private static void singleCharacters() {
        sentence("Terms", "or a single character) that is none or cannot stand where it stands");
        dueFault("0  ab] x A\n", 2);
        dueFault(" 0 ab] x A\n", 0);
        dueFault("0 ab ] x A\n", 4);
        dueFault("0 ab]x A\n", 5);
        dueFault("0 ab]  x A\n", 6);
        dueFault("0 ab] x  A\n", 8);
        dueFault("0 ab] xxA\n", 8);
        dueFault("0 ab] x A \n", 9);
        dueFault("0 ab] x A;y B\n", 10);
        dueFault("0 ab] x A;; y B\n", 10);
        dueFault("0 ab] x A;\n", 10);
        dueFault("0 ab]; x A\n", 5);
        dueFault("0 ab] ?? A\n", 7);
        dueFault("0 ab] -- A\n", 7);
        dueFault("0 ab] x? A\n", 7);
        dueFault("0 ab] xx A\n\n", 11);
        dueFault("0 ab] xx A\r\n", 10);
        dueFault("\n0 ab] x A\n", 0);
        dueFault("0\tab] x A\n", 1);
        dueFault("0 ab] " + (char) 0 + " A\n", 6);
        dueFault("0 ab] " + (char) 233 + " A\n", 6);
        dueFault((char) 65535 + " ab] x A\n", 0);
    }

    private static void faultAtTheEnd() {
        sentence("Terms", "or at the end, if more must come.");
        String right = "0 ab] xy A; vw BC\n1 c] u B\n";
        for (int length = 9; length < right.length(); length++) {
            if (length == 18) {
                dueRead(right.substring(0, length), "xy c d", "vw c d", "vw c d");
            } else {
                dueFault(right.substring(0, length), length);
            }
        }
        dueRead(right, "xy c d", "vw u d", "vw c d");
        WitnessBench x = joined("a", "bb", "bb");
        x.apparatus(false);
        dueText("a longer OUT", out(x), "0 a] a A; bb BC\n");
        x.apparatus(true);
        overwrite(x, "0 a] b B; x");
        dueText("a letter stood behind it before, and counts no more", read(x, 1), "fault at 11");
        WitnessBench y = joined("a", "b", "b", "b");
        y.apparatus(false);
        dueText("a longer OUT", out(y), "0 a] a A; b BCD\n");
        y.apparatus(true);
        overwrite(y, "0 a] b B; x");
        dueText("a space stood behind it before, and counts no more", read(y, 1), "fault at 11");
    }

    // Blocks.

    private static void blockOfTwo() {
        sentence("Terms", "(n at least 2)");
        WitnessBench one = joined("a b", "b c");
        due("one word moved", one.blocks(0, 1), 0);
        WitnessBench two = joined("a b c d", "c d e f");
        due("two words moved", two.blocks(0, 1), 1);
        dueText("two words moved", blocks(two, 1), "2,0,2");
        WitnessBench lone = joined("a", "a");
        due("a witness of one word", lone.blocks(0, 1), 0);
    }

    private static void blockAsLongAsCanBe() {
        sentence("Terms", "as long as can be");
        WitnessBench x = joined("a b c d e f g h i j", "c d e f g h i j k l");
        due("eight words, shifted by two", x.places(), 10);
        due("one block, not many", x.blocks(0, 1), 1);
        dueText("up to the end of one, from the beginning of the other", blocks(x, 1), "2,0,8");
        due("the other way round", x.blocks(1, 0), 1);
        dueText("the other way round", blocks(x, 1), "0,2,8");
        WitnessBench y = joined("p a b q c d r", "a b c c d b s");
        due("up to words that differ, and on behind them", y.blocks(0, 1), 2);
        dueText("up to words that differ, and on behind them", blocks(y, 2), "1,0,2 4,3,2");
        WitnessBench same = joined("a a a", "a a a");
        due("on both sides of the shared places", same.blocks(0, 1), 2);
        dueText("on both sides of the shared places", blocks(same, 2), "0,1,2 1,0,2");
    }

    private static void blockOfEqualWords() {
        sentence("Terms", "of which the k-th ones are equal");
        WitnessBench x = joined("a b c d", "e f a g");
        due("only one is alike", x.blocks(0, 1), 0);
        x.equate(0, 1, 1, 3);
        due("made equal", x.blocks(0, 1), 1);
        dueText("made equal", blocks(x, 1), "0,2,2");
        rule(x, "e", "c");
        rule(x, "f", "d");
        due("made alike", x.blocks(0, 1), 2);
        dueText("made alike", blocks(x, 2), "0,2,2 2,0,2");
    }

    private static void blockWithoutGaps() {
        sentence("Terms", "no gaps");
        WitnessBench x = joined("a ? b c", "b c a ?");
        due("a gap ends a block", x.blocks(0, 1), 1);
        dueText("a gap ends a block", blocks(x, 1), "2,0,2");
        WitnessBench y = joined("? ? a b", "a b ? ?");
        due("gaps alone are none", y.blocks(1, 0), 1);
        dueText("gaps alone are none", blocks(y, 1), "0,2,2");
        WitnessBench empty = joined("x x a b", "a b x x");
        rule(empty, "x", "");
        due("forms without letters are no gaps", empty.blocks(0, 1), 2);
    }

    private static void blockNotAtOnePlace() {
        sentence("Terms", "and not at one place.");
        WitnessBench x = joined("a b c", "a b c");
        due("all at one place each", x.blocks(0, 1), 0);
        WitnessBench y = joined("aaaaaa bbbbbb cccccc dddddd", "cccccc dddddd");
        due("passed before", y.blocks(0, 1), 0);
        WitnessBench z = joined("a b a b", "a b");
        due("the ones that were not matched", z.blocks(0, 1), 1);
        dueText("the ones that were not matched", blocks(z, 1), "2,0,2");
    }

    // Changes.

    private static void readsWordOrNothing() {
        sentence("Terms", "CHANGES at a place: each joined witness READS its word there, or nothing");
        WitnessBench x = joined("a b", "a", "a", "a b");
        x.parent(1, 0);
        due("a word to nothing", x.changes(1), 1);
        x.parent(2, 1);
        due("nothing to nothing", x.changes(1), 1);
        x.parent(3, 2);
        due("nothing to a word", x.changes(1), 2);
        due("the words of all are the same", x.changes(0), 0);
    }

    private static void readsAnything() {
        sentence("Terms", "one that has a gap there, or is not joined, may be thought to read anything");
        WitnessBench x = bench("a", "?", "b", "a");
        x.join(0);
        x.join(1);
        x.join(2);
        x.parent(1, 0);
        due("a word to a gap", x.changes(0), 0);
        x.parent(2, 1);
        due("one change on the way through a gap", x.changes(0), 1);
        x.parent(3, 2);
        due("one that is not joined, below", x.changes(0), 1);
        x.join(3);
        due("joined, it reads its word", x.changes(0), 2);
        WitnessBench y = bench("a", "b", "a", "c");
        y.join(0);
        y.join(2);
        y.parent(1, 0);
        y.parent(2, 1);
        due("one that is not joined, between two", y.changes(0), 0);
        WitnessBench z = joined("? q", "a q", "a q", "b q");
        z.parent(1, 0);
        z.parent(2, 0);
        z.parent(3, 0);
        due("a gap above three: what most of them read", z.changes(0), 1);
        WitnessBench gaps = joined("?", "?", "?", "?");
        gaps.parent(1, 0);
        gaps.parent(2, 1);
        due("gaps alone", gaps.changes(0), 0);
        WitnessBench none = joined("a", "?", "a b", "a");
        none.parent(1, 2);
        none.parent(0, 1);
        due("a gap is at the first place, nothing at the second", none.changes(NONE), 1);
    }

    private static void leastNumber() {
        sentence("Terms", "the least number of witnesses with a parent that read otherwise than that");
        WitnessBench x = joined("a", "b", "c", "d");
        due("no parents", x.changes(0), 0);
        x.parent(1, 0);
        due("one", x.changes(0), 1);
        x.parent(2, 0);
        due("two", x.changes(0), 2);
        x.parent(3, 2);
        due("three is the most", x.changes(0), 3);
        WitnessBench y = bench("a", "b", "", "");
        y.join(0);
        y.join(1);
        y.parent(0, 2);
        y.parent(1, 2);
        y.parent(2, 3);
        due("not two, though the parent reads anything", y.changes(0), 1);
    }

    private static void equalCountsAsTheSame() {
        sentence("Terms", "(words that are equal count as the same).");
        WitnessBench x = joined("aa", "bb", "cc");
        x.parent(1, 0);
        x.parent(2, 1);
        due("three words", x.changes(0), 2);
        x.equate(0, 0, 1, 0);
        due("two are equal", x.changes(0), 1);
        x.equate(1, 0, 2, 0);
        due("all by a chain", x.changes(0), 0);
        WitnessBench y = joined("aa", "bb");
        y.parent(1, 0);
        rule(y, "bb", "aa");
        due("alike", y.changes(0), 0);
    }

    // What holds for all methods.

    private static void firstOneNamed() {
        sentence("Terms", "Methods throw what their comments name, the first one named when several would do");
        WitnessBench x = joined("a a a a a a a a a a", "?");
        for (int k = 0; k < 8; k++) {
            x.type('a');
        }
        dueThrow("type: no letter, and full", ARGUMENT, () -> x.type('A'));
        dueThrow("word: no witness, too long", INDEX, () -> x.word(4));
        dueThrow("word: joined, too long, full", STATE, () -> x.word(0));
        x.retract();
        x.retract();
        dueThrow("word: too long, full", ARGUMENT, () -> x.word(0));
        for (int e = 1; e <= 6; e++) {
            due("equate", x.equate(0, 0, 0, e), e);
        }
        dueThrow("equate: no word, a gap, full", INDEX, () -> x.equate(1, 0, 0, 10));
        dueThrow("equate: a gap, full", ARGUMENT, () -> x.equate(0, 0, 1, 0));
        for (int n = 1; n <= 8; n++) {
            draft(x, "b");
            due("rule", x.rule(1), n);
        }
        dueThrow("rule: no draft, full", ARGUMENT, () -> x.rule(1));
        dueThrow("blocks: no witness, the same", INDEX, () -> x.blocks(4, 4));
        dueThrow("blocks: the same, not joined", ARGUMENT, () -> x.blocks(2, 2));
        dueThrow("choose: no place, not joined", INDEX, () -> x.choose(0, 2));
        dueThrow("parent: no witness, the same", INDEX, () -> x.parent(-2, -2));
    }

    private static void whatThrowsChangesNothing() {
        sentence("Terms", "what throws changes nothing.");
        refused("type('A')", ARGUMENT, x -> x.type('A'));
        refused("cut(3)", ARGUMENT, x -> x.cut(3));
        refused("word(0)", STATE, x -> x.word(0));
        refused("rule(3)", ARGUMENT, x -> x.rule(3));
        refused("equate with a gap", ARGUMENT, x -> x.equate(0, 0, 0, 2));
        refused("join(0)", STATE, x -> x.join(0));
        refused("base(3)", STATE, x -> x.base(3));
        refused("choose(1, 3)", STATE, x -> x.choose(1, 3));
        refused("amend(999, 'a')", INDEX, x -> x.amend(999, 'a'));
        refused("rebuild(3)", STATE, x -> x.rebuild(3));
        refused("blocks(0, 3)", STATE, x -> x.blocks(0, 3));
        refused("parent(0, 2)", STATE, x -> x.parent(0, 2));
    }

    private static void noSuchWitnessWordOrPlace() {
        sentence("Terms", "IndexOutOfBoundsException: there is no such witness, word or place.");
        for (int none : new int[] {FAR_BELOW, -2, 4, FAR_OFF}) {
            refused("at(0, " + none + ")", INDEX, x -> x.at(0, none));
            refused("beside(0, 0, " + none + ")", INDEX, x -> x.beside(0, 0, none));
            refused("form(0, " + none + ")", INDEX, x -> x.form(0, none));
            refused("at(" + none + ", 0)", INDEX, x -> x.at(none, 0));
            refused("changes(" + none + ")", INDEX, x -> x.changes(none));
        }
    }

    private static void callsOfAnObject() {
        sentence("What it is", "An object is used for at most 512 calls after it has been made");
        WitnessBench x = joined("ab c", "ab d");
        int calls = 16;
        for (; calls < 509; calls++) {
            x.apparatus(calls % 2 == 0);
        }
        due("the 510th", x.apparatus(true), 9);
        due("the 511th", x.rebuild(1), 2);
        due("the 512th", x.built(1, 0), 'd');
    }
}
