/** The sentences of the document's "Terms" up to PRESSED that name an edge, each with a test of its own. */
public final class TermsTest {
    private static final Checks C = new Checks("TermsTest");
    /** Rings and rows over all eight states. */
    private static final String SILENT_ROW = "0i1;1i2;2i3;3i4;4i5;5i6;6i7;";
    private static final String SILENT_ROW_DOWN = "0i7;7i6;6i5;5i4;4i3;3i2;2i1;";
    private static final String SILENT_RING = SILENT_ROW + "7i0;";
    private static final String A_ROW = "0a1;1a2;2a3;3a4;4a5;5a6;6a7;";

    public static void main(String[] args) {
        processes();
        states();
        moves();
        letters();
        standsOnce();
        onSilently();
        behindNoLetters();
        behindAWord();
        possible();
        stable();
        offers();
        lost();
        holdsByWords();
        holdsByOffers();
        holdsByLost();
        faultWord();
        faultWordOfLikeOnes();
        reasons();
        togetherFirst();
        togetherOrder();
        togetherBoth();
        togetherAlone();
        alikeEachMove();
        alikeAsManyAsCanBe();
        pressedUnreached();
        pressedAlike();
        C.end();
    }

    private static void processes() {
        C.sentence("PROCESSES 0 .. 3");
        BesideWalk x = new BesideWalk();
        for (int p = 0; p < 4; p++) {
            C.due("process " + p, x.process(p, p + 2), 1);
        }
        for (int p = 0; p < 4; p++) {
            C.due("each has its own states", x.of(p, 0), p + 2);
        }
        C.bad("process 4", x, () -> x.process(4, 1));
        C.bad("process -1", x, () -> x.process(-1, 1));
    }

    private static void states() {
        C.sentence("each of STATES 0 .. n - 1 (n 1 .. 8; 1 at first), beginning at 0");
        BesideWalk first = new BesideWalk();
        for (int p = 0; p < 4; p++) {
            C.due("at first", first.of(p, 0), 1);
            C.due("beginning at 0", first.behind(p, 0), 1);
        }
        for (int n = 1; n <= 8; n++) {
            int last = n - 1;
            int none = n;
            BesideWalk x = new BesideWalk();
            C.due("n " + n, x.process(2, n), 1);
            C.due("n " + n, x.of(2, 0), n);
            C.due("the last state", x.move(2, last, 0, last), 1);
            C.due("the last state", x.leads(2, last, 0), 1 << last);
            C.due("the last state", x.alike(2, last, 2, last), 1);
            C.bad("from n", x, () -> x.move(2, none, 1, 0));
            C.bad("to n", x, () -> x.move(2, 0, 1, none));
            C.bad("leads from n", x, () -> x.leads(2, none, 0));
            C.bad("alike n", x, () -> x.alike(2, none, 2, 0));
            C.bad("alike n", x, () -> x.alike(2, 0, 2, none));
            C.bad("unmove from n", x, () -> x.unmove(2, none, 0, last));
            C.bad("unmove to n", x, () -> x.unmove(2, last, 0, none));
            C.bad("from -1", x, () -> x.move(2, -1, 1, 0));
            C.bad("to -1", x, () -> x.move(2, 0, 1, -1));
            C.due("beginning at 0", x.behind(2, 0), 1);
        }
        C.bad("n 0", first, () -> first.process(0, 0));
        C.bad("n 9", first, () -> first.process(0, 9));
    }

    private static void moves() {
        C.sentence("with MOVES (none at first; 24 at most)");
        BesideWalk x = new BesideWalk();
        for (int p = 0; p < 4; p++) {
            C.due("none at first", x.of(p, 1), 0);
            for (int by = 0; by < 5; by++) {
                C.due("none at first", x.leads(p, 0, by), 0);
            }
        }
        x.process(0, 5);
        for (int i = 0; i < 24; i++) {
            C.due("up to 24", x.move(0, i / 5, 4, i % 5), i + 1);
        }
        C.refused("a 25th", x, -4, () -> x.move(0, 4, 4, 4));
        C.due("one goes", x.unmove(0, 0, 4, 0), 23);
        C.due("then the 25th has room", x.move(0, 4, 4, 4), 24);
        C.refused("and the one that went has not", x, -4, () -> x.move(0, 0, 4, 0));
        C.due("another process has room of its own", x.move(1, 0, 0, 0), 1);
    }

    private static void letters() {
        C.sentence("by a LETTER a to d (0 .. 3), or SILENT (4)");
        BesideWalk x = new BesideWalk();
        for (int by = 0; by < 5; by++) {
            C.due("by " + by, x.move(0, 0, by, 0), by + 1);
            C.due("leads by " + by, x.leads(0, 0, by), 1);
        }
        for (int by = 0; by < 5; by++) {
            C.due("unmove by " + by, x.unmove(0, 0, by, 0), 4 - by);
        }
        for (int by : new int[] {-1, 5}) {
            C.bad("move by " + by, x, () -> x.move(0, 0, by, 0));
            C.bad("unmove by " + by, x, () -> x.unmove(0, 0, by, 0));
            C.bad("leads by " + by, x, () -> x.leads(0, 0, by));
        }
    }

    private static void standsOnce() {
        C.sentence("each MOVE stands once");
        BesideWalk x = Checks.with(2, "0a1;0b1;0i1;1a0;1b0;");
        C.refused("by move", x, -3, () -> x.move(0, 0, 0, 1));
        Checks.write(x, "1a0;");
        C.quiet("by a text", x, -10, () -> x.moves(0));
        C.due("by renames", x.renames(0, 0, 1), 3);
        C.due("by hides", x.hides(0, 2), 2);
        Checks.build(x, 1, 1, "0a0;0i0;");
        C.due("by together", x.together(1, 1, 0, 2), 1);
        C.due("by together", x.of(2, 1), 2);
        Checks.build(x, 3, 3, "0a1;0a2;");
        C.due("by presses", x.presses(3), 2);
        C.due("by presses", x.of(3, 1), 1);
    }

    private static void onSilently() {
        C.sentence("ON SILENTLY from some STATES: all that can be got to from them by SILENT MOVES (they, too)");
        C.due("without silent moves: it alone", Checks.with(8, "0a1;1i2;").behind(0, 0), 1);
        C.due("a row over all", Checks.with(8, SILENT_ROW).behind(0, 0), 255);
        C.due("a row down over all", Checks.with(8, SILENT_ROW_DOWN).behind(0, 0), 255);
        C.due("a ring", Checks.with(8, SILENT_RING).behind(0, 0), 255);
        C.due("to itself", Checks.with(3, "0i0;").behind(0, 0), 1);
        C.due("not by letters in between", Checks.with(5, "0i1;1a2;2i3;4i0;").behind(0, 0), 3);
        C.due("two ways", Checks.with(8, "0i5;0i2;5i7;2i1;").behind(0, 0), 1 + 2 + 4 + 32 + 128);
    }

    private static void behindNoLetters() {
        C.sentence("of no LETTERS: ON SILENTLY from 0");
        BesideWalk x = Checks.with(4, "0i2;1i3;0a1;");
        C.due("an empty text", x.behind(0, 0), 5);
        Checks.write(x, "     ");
        C.due("blanks alone", x.behind(0, 0), 5);
        C.due("of a new process", x.behind(3, 0), 1);
    }

    private static void behindAWord() {
        C.sentence("of a WORD and a LETTER: ON SILENTLY from all that MOVES by that LETTER lead to"
            + " from those BEHIND the WORD");
        BesideWalk x = Checks.with(8, "0i1;1a2;0a3;2i4;4i5;5b6;3b7;6i0;");
        C.due("silently ahead of the letter and behind it", word(x, "a"), 4 + 8 + 16 + 32);
        C.due("from each of those", word(x, "ab"), 1 + 2 + 64 + 128);
        C.due("round", word(x, "aba"), 4 + 8 + 16 + 32);
        C.due("0 stays not there by itself", word(x, "b"), 0);
        C.due("behind none there is none", word(x, "ba"), 0);
        C.due("behind none there is none", word(x, "c"), 0);
        Checks.build(x, 0, 8, A_ROW);
        C.due("7 letters", word(x, "aaaaaaa"), 128);
        C.due("8 letters", word(x, "aaaaaaaa"), 0);
        Checks.build(x, 0, 8, A_ROW + "7a0;");
        C.due("20 letters", word(x, "a".repeat(20)), 16);
    }

    private static int word(BesideWalk x, String word) {
        Checks.write(x, word);
        return x.behind(0, 0);
    }

    private static void possible() {
        C.sentence("A WORD is POSSIBLE, if some STATE is BEHIND it");
        BesideWalk x = Checks.with(3, "0a1;1i2;2d2;");
        C.due("next: a alone", x.behind(0, 1), 1);
        Checks.write(x, "a");
        C.due("next, over a silent move: d", x.behind(0, 1), 8);
        Checks.write(x, "b");
        C.due("behind what is not possible nothing is", x.behind(0, 1), 0);
        x.clear();
        C.due("of no letters: always", x.behind(1, 0), 1);
        C.due("next: none", x.behind(1, 1), 0);
        Checks.build(x, 1, 1, "0a0;0b0;0c0;0d0;");
        C.due("next: all", x.behind(1, 1), 15);
    }

    private static void stable() {
        C.sentence("A STATE is STABLE, if it has no SILENT MOVE");
        C.due("without moves", new BesideWalk().of(0, 4), 1);
        C.due("all eight", Checks.with(8, A_ROW).of(0, 4), 255);
        C.due("one to itself is one, too", Checks.with(2, "0i0;").of(0, 4), 2);
        C.due("none", Checks.with(8, SILENT_RING).of(0, 4), 0);
        C.due("letters and a silent one", Checks.with(3, "0a0;0i1;1a0;").of(0, 4), 6);
        C.due("led to silently is another thing", Checks.with(8, "0i7;").of(0, 4), 254);
    }

    private static void offers() {
        C.sentence("what it OFFERS: LETTERS by which it has MOVES, a set");
        BesideWalk x = new BesideWalk();
        C.due("none", x.behind(0, 2), 0);
        Checks.build(x, 0, 1, "0a0;0b0;0c0;0d0;");
        C.due("four", x.behind(0, 2), 4);
        Checks.build(x, 0, 3, "0c0;0c1;0c2;");
        C.due("three moves, one letter", x.behind(0, 2), 1);
        Checks.build(x, 0, 2, "0i1;0a0;1d0;1b0;");
        C.due("of the stable one alone; silent is no letter", x.behind(0, 2), 2);
    }

    private static void lost() {
        C.sentence("A STATE IS LOST, if one can go on from it by SILENT MOVES without end");
        C.due("a new one", new BesideWalk().of(0, 5), 0);
        C.due("to itself", Checks.with(1, "0i0;").of(0, 5), 1);
        C.due("a ring of eight", Checks.with(8, SILENT_RING).of(0, 5), 255);
        C.due("a row of eight has an end", Checks.with(8, SILENT_ROW).of(0, 5), 0);
        C.due("a row down has an end", Checks.with(8, SILENT_ROW_DOWN).of(0, 5), 0);
        C.due("a row into a ring", Checks.with(8, SILENT_ROW + "7i7;").of(0, 5), 255);
        C.due("a row down into a ring", Checks.with(8, SILENT_ROW_DOWN + "1i1;").of(0, 5), 255);
        C.due("behind a ring there may be an end", Checks.with(3, "0i0;0i1;1i2;").of(0, 5), 1);
        C.due("one way of two is enough", Checks.with(4, "0i1;0i2;2i3;3i2;").of(0, 5), 13);
        C.due("a ring over a letter is none", Checks.with(3, "0i1;1i2;2a0;").of(0, 5), 0);
        C.due("also one that can not be got to", Checks.with(8, "7i7;").of(0, 5), 128);
    }

    private static void holdsByWords() {
        C.sentence("MODE 0: each WORD POSSIBLE in p is POSSIBLE in q");
        BesideWalk x = Checks.with(8, A_ROW, 1, "0a0;");
        C.due("seven letters against any number", x.holds(0, 1, 0), 1);
        C.due("any number against seven", x.holds(1, 0, 0), 0);
        C.due("no letters against any", x.holds(2, 0, 0), 1);
        C.due("no letters against none", x.holds(2, 3, 0), 1);
        C.due("a word against none", x.holds(0, 2, 0), 0);
        C.due("with itself", x.holds(0, 0, 0), 1);
        BesideWalk y = Checks.with(4, "0a1;1i2;2b3;", 5, "0i4;4a1;1b2;");
        C.due("silent moves are no letters", y.holds(0, 1, 0), 1);
        C.due("silent moves are no letters", y.holds(1, 0, 0), 1);
        BesideWalk z = Checks.with(4, "0a1;1b2;1c3;", 5, "0a1;0a2;1b3;2c4;");
        C.due("behind one word there may be two states", z.holds(0, 1, 0), 1);
        BesideWalk parity = Checks.with(2, "0a1;1a0;1b1;", 3, "0a1;1a2;2a0;0b0;1b1;2b2;");
        C.due("rings of two and three", parity.holds(0, 1, 0), 1);
        C.due("rings of two and three", parity.holds(1, 0, 0), 0);
    }

    private static void holdsByOffers() {
        C.sentence("there is a STABLE one BEHIND it in q that OFFERS nothing more than it does (just that or less)");
        C.due("just that", offersHold("0a0;0b0;", "0a0;0b0;"), 1);
        C.due("more than q's", offersHold("0a0;0b0;", "0a0;0b0;0i1;1b0;"), 1);
        C.due("a stable one of q that offers none", offersHold("0a0;0b0;", "0a0;0b0;0i1;"), 1);
        C.due("less than q's", offersHold("0a0;", "0a0;0b0;"), 0);
        C.due("none against one", offersHold("", "0a0;"), 0);
        C.due("none against none", offersHold("", ""), 1);
        C.due("neither more nor less", offersHold("0a0;0b0;", "0a0;0b0;0i1;1b0;1c0;"), 0);
        C.due("one of several is enough", offersHold("0a0;0b0;", "0a0;0b0;0i1;0i2;1b0;1c0;2a0;"), 1);
        C.due("one of q that is not stable does not help", offersHold("0a0;", "0a0;0i1;1i2;2a0;2b0;"), 0);
        C.due("none of q is stable", offersHold("0a0;", "0a0;0i0;"), 0);
        C.due("none of p is stable", offersHold("0a0;0i0;", "0a0;"), 1);
        C.due("one of p that is not stable is not asked", offersHold("0a0;0i1;1a0;1b0;", "0a0;0b0;"), 1);
        C.due("each one of p is asked", offersHold("0i1;0i2;1a0;1b0;2b0;", "0i1;1a0;1b0;"), 0);
        C.due("behind a word, too", offersHold("0a1;", "0a1;1a1;"), 0);
        C.due("mode 1 asks for mode 0, too", offersHold("0a0;0b0;", "0a0;"), 0);
    }

    private static int offersHold(String p, String q) {
        return Checks.with(3, p, 3, q).holds(0, 1, 1);
    }

    private static void holdsByLost() {
        C.sentence("MODE 2: so by 1, and where a STATE BEHIND a WORD in p is LOST, one BEHIND it in q is");
        C.due("neither is lost", lostHolds("0a0;", "0a0;"), 1);
        C.due("both are lost", lostHolds("0a0;0i0;", "0a0;0i0;"), 1);
        C.due("p is lost", lostHolds("0a0;0i0;", "0a0;"), 0);
        C.due("q is lost: it may be", lostHolds("0a0;", "0i1;1a1;0i2;2i2;"), 1);
        C.due("another one of q than the one that moves", lostHolds("0a0;0i0;", "0a0;0i1;1i2;2i2;"), 1);
        C.due("behind a word", lostHolds("0a1;1i1;", "0a1;1i2;"), 0);
        C.due("behind a word in both", lostHolds("0a1;1i1;", "0a1;1i2;2i2;"), 1);
        C.due("q lost at another word", lostHolds("0a1;1i1;", "0i2;2i2;0a1;"), 0);
        C.due("one that can not be got to", lostHolds("0a0;2i2;", "0a0;"), 1);
        C.due("mode 2 asks for mode 1, too", lostHolds("0a0;", "0a0;0i0;"), 0);
        C.due("mode 2 asks for mode 0, too", lostHolds("0a1;0i0;1i1;", "0i0;"), 0);
    }

    private static int lostHolds(String p, String q) {
        return Checks.with(3, p, 3, q).holds(0, 1, 2);
    }

    private static void faultWord() {
        C.sentence("FAULT WORD: the shortest WORD POSSIBLE in p at which it is not so");
        dueWord("no letters", Checks.with(1, "", 1, "0a0;"), 1, "");
        dueWord("no letters", Checks.with(1, "0i0;", 1, ""), 2, "");
        dueWord("one letter", Checks.with(1, "0d0;", 1, ""), 0, "d");
        dueWord("d ahead of aa", Checks.with(3, "0a1;1a2;0d2;", 2, "0a1;"), 0, "d");
        dueWord("possible in p: not ab", Checks.with(3, "0a1;1c2;", 2, "0a1;1b0;"), 0, "ac");
        dueWord("behind a row", Checks.with(1, "0a0;", 8, A_ROW), 0, "aaaaaaaa");
        dueWord("longer than a text's word", Checks.with(5, "0a1;1a2;2a3;3a4;4a0;4b0;",
            6, "0a1;1a2;2a3;3a4;4a5;5a0;0b0;1b0;2b0;3b0;4b0;"), 0, "a".repeat(29) + "b");
        BesideWalk x = Checks.with(3, "0b1;1i1;0a2;2a2;", 3, "0b1;0a2;2a2;2b2;");
        dueWord("the shortest of all three kinds", x, 1, "a");
        dueWord("the shortest of all three kinds", x, 2, "a");
        C.due("by words it holds", x.holds(0, 1, 0), 1);
    }

    private static void faultWordOfLikeOnes() {
        C.sentence("of like ones the first (a ahead of b, ..)");
        dueWord("of two letters", Checks.with(2, "0b1;0a1;", 1, ""), 0, "a");
        dueWord("of four letters", Checks.with(2, "0d1;0c1;0b1;", 1, ""), 0, "b");
        dueWord("the first letter goes ahead of the second", Checks.with(4, "0b1;1a3;0a2;2d3;", 2, "0a1;0b1;"), 0, "ad");
        dueWord("whatever the states' numbers", Checks.with(4, "0a3;0b1;1c2;3c2;", 2, "0a1;0b1;"), 0, "ac");
        dueWord("of two kinds", Checks.with(3, "0a1;1i1;0b2;", 3, "0a1;0b2;2a2;"), 2, "a");
        dueWord("of two kinds", Checks.with(3, "0a1;0b2;2i2;", 3, "0a1;1a1;0b2;"), 2, "a");
    }

    private static void dueWord(String what, BesideWalk x, int mode, String word) {
        C.due(what + ": it does not hold", x.holds(0, 1, mode), 0);
        C.due(what + ": letters", x.fault(0, 1, mode, -1), word.length());
        for (int k = 0; k < word.length(); k++) {
            C.due(what + ": letter " + k, x.fault(0, 1, mode, k), word.charAt(k) - 'a');
        }
        C.due(what + ": not so many", x.fault(0, 1, mode, word.length()), -5);
    }

    private static void reasons() {
        C.sentence("REASON: 0 it is not POSSIBLE in q, 1 OFFERS, 2 LOST (the first of these)");
        C.due("0 alone", Checks.with(2, "0a1;1i1;", 1, "").reason(0, 1, 0), 0);
        BesideWalk all = Checks.with(3, "0a1;0a2;0i0;1i1;", 1, "0i0;");
        C.due("0, 1, 2 at one word", all.reason(0, 1, 2), 0);
        C.due("0, 1, 2 at one word", all.reason(0, 1, 1), 0);
        BesideWalk two = Checks.with(2, "0i0;0i1;", 1, "0a0;");
        C.due("1 and 2 at one word", two.reason(0, 1, 2), 1);
        C.due("1 and 2 at one word", two.reason(0, 1, 1), 1);
        C.refused("and by words it holds", two, -3, () -> two.reason(0, 1, 0));
        BesideWalk last = Checks.with(2, "0i0;0i1;", 1, "");
        C.due("2 alone", last.reason(0, 1, 2), 2);
        BesideWalk longer = Checks.with(2, "0i0;0a1;", 1, "");
        C.due("2 at a shorter word than 0", longer.reason(0, 1, 2), 2);
        C.due("by mode 1 the longer word", longer.reason(0, 1, 1), 0);
        C.due("by mode 0 the longer word", longer.reason(0, 1, 0), 0);
    }

    private static void togetherFirst() {
        C.sentence("STATES are pairs (of p, of q), the first 0, 0");
        BesideWalk x = Checks.with(8, "1a0;7b7;", 8, "1a0;7b7;");
        C.due("alone, if it has no moves", x.together(0, 1, 15, 2), 1);
        C.due("alone, if it has no moves", x.of(2, 1), 0);
        Checks.build(x, 0, 2, "0a1;");
        C.due("those of p are the first ones", x.together(0, 1, 0, 2), 2);
        C.due("those of q are the second ones", x.together(1, 0, 0, 3), 2);
        C.due("back to it", x.move(0, 1, 1, 0), 2);
        C.due("back to it", x.together(0, 1, 0, 2), 2);
        C.due("back to it", x.leads(2, 1, 1), 1);
    }

    private static void togetherOrder() {
        C.sentence("numbered as they are found: of each one, in the order of their numbers,"
            + " MOVES by LETTERS a to d, then SILENT ones");
        BesideWalk x = Checks.with(6, "0i1;0d2;0c3;0b4;0a5;");
        C.due("one alone", x.together(0, 1, 0, 2), 6);
        int[] found = {2, 4, 8, 16, 32};
        for (int by = 0; by < 5; by++) {
            C.due("by " + by, x.leads(2, 0, by), found[by]);
        }
        Checks.build(x, 0, 6, "0a4;0a2;4a1;2a5;1a3;");
        C.due("broad, not deep", x.together(0, 1, 0, 2), 6);
        C.due("2 is 1, 4 is 2", x.leads(2, 0, 0), 6);
        C.due("of 2: 5 is 3", x.leads(2, 1, 0), 8);
        C.due("of 4: 1 is 4", x.leads(2, 2, 0), 16);
        C.due("of 1: 3 is 5", x.leads(2, 4, 0), 32);
    }

    private static void togetherBoth() {
        C.sentence("by a LETTER of the set: both move by it (by the STATE p comes to, rising, for each by that of q)");
        BesideWalk x = Checks.with(4, "0a3;0a1;1b0;3c0;", 3, "0a2;0a1;2b0;1d0;");
        C.due("states", x.together(0, 1, 15, 2), 5);
        C.due("(1,1) (1,2) (3,1) (3,2)", x.leads(2, 0, 0), 30);
        C.due("(1,1): one alone can not", x.leads(2, 1, 1), 0);
        C.due("(1,2) by b", x.leads(2, 2, 1), 1);
        C.due("(3,1): one alone can not", x.leads(2, 3, 2) + x.leads(2, 3, 3), 0);
        C.due("moves", x.of(2, 1), 5);
        C.due("by a letter that neither has", x.together(3, 3, 15, 2), 1);
        Checks.build(x, 0, 2, "0d1;");
        Checks.build(x, 1, 2, "0d1;");
        C.due("d is the set's bit 3", x.together(0, 1, 8, 2), 2);
        C.due("d is the set's bit 3", x.leads(2, 0, 3), 2);
        C.due("the other bits are not d's", x.together(0, 1, 7, 2), 4);
    }

    private static void togetherAlone() {
        C.sentence("by others, SILENTLY: p alone, the other one staying (by the STATE it comes to, rising),"
            + " then q alone");
        BesideWalk x = Checks.with(3, "0i2;0i1;", 2, "0i1;");
        C.due("silently never both, whatever the set", x.together(0, 1, 15, 2), 6);
        C.due("(1,0) (2,0) (0,1)", x.leads(2, 0, 4), 14);
        C.due("(1,0): (1,1)", x.leads(2, 1, 4), 16);
        C.due("(2,0): (2,1)", x.leads(2, 2, 4), 32);
        C.due("(0,1): (1,1) (2,1)", x.leads(2, 3, 4), 48);
        C.due("the other way round", x.together(1, 0, 15, 3), 6);
        C.due("(1,0) (0,1) (0,2)", x.leads(3, 0, 4), 14);
        C.due("(1,0): (1,1) (1,2)", x.leads(3, 1, 4), 48);
        Checks.build(x, 0, 1, "0b0;");
        Checks.build(x, 1, 2, "0b1;");
        C.due("p alone stays, q alone moves", x.together(0, 1, 0, 2), 2);
        C.due("p alone stays, q alone moves", x.leads(2, 0, 1), 3);
        C.due("p alone", x.leads(2, 1, 1), 2);
    }

    private static void alikeEachMove() {
        C.sentence("by each LETTER, and SILENTLY, from each one to each STATE to which it has such a MOVE"
            + " the other one has such a MOVE to one that is ALIKE to that");
        C.due("no moves, no moves", new BesideWalk().alike(0, 0, 1, 0), 1);
        String[] signs = {"a", "b", "c", "d", "i"};
        for (String sign : signs) {
            BesideWalk x = Checks.with(1, "0" + sign + "0;");
            C.due(sign + " against none", x.alike(0, 0, 1, 0), 0);
            C.due("none against " + sign, x.alike(1, 0, 0, 0), 0);
            Checks.build(x, 1, 2, "0" + sign + "1;1" + sign + "1;");
            C.due(sign + " against " + sign, x.alike(0, 0, 1, 0), 1);
        }
        C.due("a against b", Checks.with(1, "0a0;", 1, "0b0;").alike(0, 0, 1, 0), 0);
        C.due("one of two moves is not matched", Checks.with(3, "0a1;0a2;1b1;", 2, "0a1;1b1;").alike(0, 0, 1, 0), 0);
        C.due("nor the other way round", Checks.with(2, "0a1;1b1;", 3, "0a1;0a2;1b1;").alike(0, 0, 1, 0), 0);
        C.due("whichever of the two it is", Checks.with(3, "0a1;0a2;2b2;", 2, "0a1;1b1;").alike(0, 0, 1, 0), 0);
        C.due("whichever of the two it is", Checks.with(2, "0a1;1b1;", 3, "0a1;0a2;2b2;").alike(0, 0, 1, 0), 0);
        C.due("a move to 0 alone against none", Checks.with(3, "0b1;0c2;1a0;").alike(0, 1, 0, 2), 0);
        C.due("two are matched by one", Checks.with(3, "0a1;0a2;1b1;2b2;", 2, "0a1;1b1;").alike(0, 0, 1, 0), 1);
        BesideWalk far = Checks.with(8, A_ROW, 8, A_ROW + "7b7;");
        C.due("what differs seven moves on differs", far.alike(0, 0, 1, 0), 0);
        C.due("by how far it is to the end", far.alike(0, 3, 0, 4), 0);
        BesideWalk farther = Checks.with(8, A_ROW + "7a6;", 8, A_ROW + "7a6;7i7;");
        C.due("what differs seven moves on differs", farther.alike(0, 0, 1, 0), 0);
    }

    private static void alikeAsManyAsCanBe() {
        C.sentence("two STATES (of one PROCESS or of two) ... (as many are ALIKE as can be so)");
        BesideWalk x = Checks.with(8, A_ROW + "7a0;", 3, "0a1;1a2;2a0;");
        for (int s = 0; s < 8; s++) {
            C.due("of one, " + s, x.alike(0, s, 0, 7 - s), 1);
            C.due("of two, " + s, x.alike(0, s, 1, s % 3), 1);
            C.due("of two, " + s, x.alike(1, s % 3, 0, s), 1);
            C.due("each one to itself", x.alike(0, s, 0, s), 1);
        }
        BesideWalk y = Checks.with(2, "0a0;0i1;1i0;1a1;", 1, "0a0;0i0;");
        C.due("two rings", y.alike(0, 0, 1, 0), 1);
        C.due("two rings", y.alike(0, 1, 1, 0), 1);
    }

    private static void pressedUnreached() {
        C.sentence("PRESSED: STATES that can not be got to from 0 (by any MOVES) go");
        BesideWalk x = Checks.with(8, "1a0;2i0;7d7;");
        C.due("all but 0", x.presses(0), 1);
        C.due("with their moves", x.of(0, 1), 0);
        Checks.build(x, 0, 8, "0i1;1a2;2b3;3c4;4d5;5i6;6a7;");
        C.due("by any moves", x.presses(0), 8);
        C.due("all stays", x.of(0, 1), 7);
        Checks.build(x, 0, 8, "0a7;7b6;6c5;5d4;4i3;3a2;2b1;");
        C.due("a row down", x.presses(0), 8);
        Checks.build(x, 0, 3, "0a0;0b2;2b0;1a2;");
        C.due("one in the middle goes", x.presses(0), 2);
        C.due("one in the middle goes", x.leads(0, 0, 1), 2);
        C.due("one in the middle goes", x.leads(0, 1, 1), 1);
    }

    private static void pressedAlike() {
        C.sentence("of those ALIKE the least stays, MOVES lead to it; numbered anew in their order");
        BesideWalk x = Checks.with(5, "0a4;0b2;0c3;4d4;2d2;3i3;1d1;");
        C.due("of 2 and 4 (and 1, which can not be got to)", x.presses(0), 3);
        C.due("4 is 2, now 1", x.leads(0, 0, 0), 2);
        C.due("2 is now 1", x.leads(0, 0, 1), 2);
        C.due("3 is now 2", x.leads(0, 0, 2), 4);
        C.due("moves of 2", x.leads(0, 1, 3), 2);
        C.due("moves of 3", x.leads(0, 2, 4), 4);
        C.due("moves", x.of(0, 1), 5);
        Checks.build(x, 0, 8, A_ROW + "7a0;");
        C.due("all eight become one", x.presses(0), 1);
        C.due("all eight become one", x.leads(0, 0, 0), 1);
        C.due("all eight become one", x.of(0, 1), 1);
        Checks.build(x, 0, 8, A_ROW);
        C.due("none are alike", x.presses(0), 8);
        C.due("none are alike", x.of(0, 1), 7);
        C.due("a new one", x.presses(1), 1);
        Checks.build(x, 0, 3, "0b1;0c2;1a0;");
        C.due("one goes to 0, the other one nowhere", x.presses(0), 3);
    }
}
