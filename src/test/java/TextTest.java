/** The sentences on THE TEXT, FAULTS, PASTS and refused calls in the document's "Terms", each with a test of its own. */
public final class TextTest {
    private static final Checks C = new Checks("TextTest");
    /** 24 moves in 96 bytes. */
    private static final String MOST = most();

    public static void main(String[] args) {
        hundredBytes();
        asItIsAskedFor();
        wordOfLetters();
        movesEnded();
        movesSigns();
        blanks();
        firstFault();
        stateThatIsNot();
        movesThatStand();
        twentyFifth();
        twentyFirst();
        tooEarly();
        everyPlace();
        pastOfEachCall();
        pastWithoutChange();
        noPastByFault();
        fivePasts();
        backToProcesses();
        refusedFirstOf();
        refusedQuestions();
        refusedChangesNothing();
        nothingCounts();
        C.end();
    }

    private static String most() {
        StringBuilder text = new StringBuilder();
        for (int i = 0; i < 24; i++) {
            text.append((char) ('0' + i / 5)).append('i').append((char) ('0' + i % 5)).append(';');
        }
        return text.toString();
    }

    private static int faultOf(int n, String text) {
        BesideWalk x = new BesideWalk();
        x.process(0, n);
        Checks.write(x, text);
        return x.moves(0);
    }

    private static int wordFault(String text) {
        BesideWalk x = new BesideWalk();
        Checks.write(x, text);
        return x.behind(0, 0);
    }

    private static void hundredBytes() {
        C.sentence("THE TEXT (100 bytes at most)");
        BesideWalk x = new BesideWalk();
        for (int i = 1; i <= 100; i++) {
            C.due("byte " + i, x.type(i), i);
        }
        C.refused("a 101st", x, -4, () -> x.type(97));
        C.refused("again", x, -4, () -> x.type(32));
        C.due("it has 100", x.told(3), 100);
        C.due("emptied", x.clear(), 100);
        C.due("there is room", x.type(97), 1);
        C.due("it is a new text", x.behind(0, 0), 0);
        BesideWalk y = new BesideWalk();
        y.process(0, 5);
        Checks.write(y, MOST + "    ");
        C.refused("a 101st", y, -4, () -> y.type('x'));
        C.due("is not in the text", y.moves(0), 24);
    }

    private static void asItIsAskedFor() {
        C.sentence("as it is asked for: a WORD ... or MOVES");
        BesideWalk x = new BesideWalk();
        Checks.write(x, "0a0;");
        C.due("as a word", x.behind(0, 0), -10);
        C.due("as moves", x.moves(0), 1);
        Checks.write(x, "aa");
        C.due("as moves", x.moves(0), -10);
        C.due("as a word", x.behind(0, 0), 1);
        x.clear();
        C.due("an empty one as moves", x.moves(0), -10);
        C.due("an empty one as a word", x.behind(0, 0), 1);
    }

    private static void wordOfLetters() {
        C.sentence("a WORD (letters a to d, perhaps none, 20 at most)");
        C.due("none", wordFault(""), 1);
        C.due("a to d", wordFault("abcd"), 0);
        BesideWalk x = new BesideWalk();
        for (int by = 0; by < 4; by++) {
            x.move(0, 0, by, 0);
        }
        Checks.write(x, "abcdabcdabcdabcdabcd");
        C.due("20", x.behind(0, 0), 1);
        x.type('a');
        C.due("21", x.behind(0, 0), -30);
        for (int c = 0; c < 128; c++) {
            Checks.write(x, "");
            x.type(c);
            boolean stands = c == 32 || c >= 97 && c <= 100;
            C.due("byte " + c, x.behind(0, 0), stands ? 1 : -10);
        }
    }

    private static void movesEnded() {
        C.sentence("or MOVES, each ended by ;");
        C.due("one", faultOf(2, "0a1;"), 1);
        C.due("two", faultOf(2, "0a1;1a0;"), 2);
        C.due("24", faultOf(5, MOST), 24);
        C.due("the last one is not", faultOf(2, "0a1;1a0"), -17);
        C.due("the first one is not", faultOf(2, "0a11a0;"), -13);
        C.due("ended twice", faultOf(2, "0a1;;"), -14);
        C.due("nothing to be ended", faultOf(2, ";"), -10);
        C.due("by another sign", faultOf(2, "0a1:"), -13);
        C.due("by another sign", faultOf(2, "0a1<"), -13);
    }

    private static void movesSigns() {
        C.sentence("a figure FROM, a letter a to d or i (SILENT), a figure TO");
        for (int c = 0; c < 128; c++) {
            char sign = (char) c;
            boolean figure = c >= '0' && c <= '7';
            boolean letter = c >= 'a' && c <= 'd' || c == 'i';
            boolean blank = c == 32;
            C.due("FROM " + c, faultOf(8, sign + "a0;"), blank ? -11 : figure ? 1 : -10);
            C.due("letter " + c, faultOf(8, "0" + sign + "0;"), blank ? -12 : letter ? 1 : -11);
            C.due("TO " + c, faultOf(8, "0a" + sign + ";"), blank ? -13 : figure ? 1 : -12);
            C.due("end " + c, faultOf(8, "0a0" + sign), blank ? -14 : c == ';' ? 1 : -13);
        }
        BesideWalk x = Checks.with(8, "7a0;6b1;5c2;4d3;3i4;");
        C.due("a", x.leads(0, 7, 0), 1);
        C.due("b", x.leads(0, 6, 1), 2);
        C.due("c", x.leads(0, 5, 2), 4);
        C.due("d", x.leads(0, 4, 3), 8);
        C.due("i", x.leads(0, 3, 4), 16);
        C.due("a figure is one sign", faultOf(8, "00a1;"), -11);
        C.due("a figure is one sign", faultOf(8, "0a01;"), -13);
    }

    private static void blanks() {
        C.sentence("Blanks (32) may stand anywhere");
        C.due("ahead", faultOf(2, "  0a1;"), 1);
        C.due("behind", faultOf(2, "0a1;  "), 1);
        C.due("between all", faultOf(2, " 0 a 1 ; 1 i 1 ; "), 2);
        C.due("many", faultOf(2, "0" + " ".repeat(96) + "a1;"), 1);
        C.due("in a word", wordFault(" " .repeat(100)), 1);
        BesideWalk x = Checks.with(3, "0a1;1b2;");
        Checks.write(x, "  a  b ");
        C.due("in a word", x.behind(0, 0), 4);
        for (int c : new int[] {0, 9, 10, 13, 31, 33, 95, 127}) {
            String sign = String.valueOf((char) c);
            C.due("byte " + c + " is none", faultOf(2, "0a1;" + sign), -14);
            C.due("byte " + c + " is none, in a word", wordFault(sign), -10);
        }
    }

    private static void firstFault() {
        C.sentence("FAULT: the place of the first byte that can not stand there");
        C.due("of two", faultOf(2, "0x9;"), -11);
        C.due("of two", faultOf(2, "2a2;"), -10);
        C.due("of two moves", faultOf(2, "0a1;0b2;xx"), -16);
        C.due("ahead of the text's end", faultOf(2, "0a1;0x"), -15);
        C.due("at place 99", faultOf(2, " ".repeat(99) + "x"), -109);
        C.due("of a word: of two", wordFault("ab?!"), -12);
        C.due("of a word: at place 99", wordFault(" ".repeat(99) + "e"), -109);
        C.due("of a word: ahead of the 21st letter", wordFault("a".repeat(19) + "e" + "aa"), -29);
        C.due("of a word: behind the 21st letter", wordFault("a".repeat(21) + "e"), -30);
    }

    private static void stateThatIsNot() {
        C.sentence("a STATE that the PROCESS has not");
        for (int n = 1; n <= 8; n++) {
            C.due("FROM n, n " + n, faultOf(n, n + "a0;"), -10);
            C.due("TO n, n " + n, faultOf(n, "0a" + n + ";"), -12);
            C.due("FROM n - 1, n " + n, faultOf(n, (n - 1) + "a0;"), 1);
            C.due("TO n - 1, n " + n, faultOf(n, "0a" + (n - 1) + ";"), 1);
        }
        C.due("9", faultOf(8, "9a0;"), -10);
        C.due("9", faultOf(8, "0a9;"), -12);
        C.due("behind blanks: its own place", faultOf(2, "  0  a  2;"), -18);
        C.due("in the second move", faultOf(2, "0a1;2"), -14);
    }

    private static void movesThatStand() {
        C.sentence("of a MOVE that stands already, known with its TO ...: its first byte");
        BesideWalk x = Checks.with(3, "0a1;1i1;");
        dueFault("in the process", x, "0a1;", 0);
        dueFault("silent", x, "1i1;", 0);
        dueFault("known with its TO, ahead of its end", x, "0a1", 0);
        dueFault("known with its TO, ahead of a wrong end", x, "0a1x", 0);
        dueFault("not known ahead of its TO", x, "0a", 2);
        dueFault("not known by a wrong TO", x, "0a3;", 2);
        dueFault("behind blanks", x, "  0 a 1;", 2);
        dueFault("behind another move", x, "0a2;0a1;", 4);
        dueFault("in the text", x, "0a2;0a2;", 4);
        dueFault("in the text, with blanks", x, "0a2; 0b2 ;  0 a 2;", 12);
        dueFault("an earlier fault comes first", x, "0x1;0a1;", 1);
        Checks.write(x, "1a1;0i1;0a0;1a0;");
        C.due("none of these stands", x.moves(0), 4);
    }

    private static void dueFault(String what, BesideWalk x, String text, int place) {
        Checks.write(x, text);
        C.quiet(what + " '" + text + "'", x, -10 - place, () -> x.moves(0));
    }

    private static void twentyFifth() {
        C.sentence("and of a 25th one: its first byte");
        BesideWalk x = new BesideWalk();
        x.process(0, 5);
        dueFault("of one text", x, MOST + "4i4;", 96);
        Checks.write(x, MOST);
        C.due("24", x.moves(0), 24);
        dueFault("of another text", x, "4i4;", 0);
        dueFault("behind blanks", x, "   4 i 4;", 3);
        dueFault("one that stands already", x, "0i0;", 0);
        dueFault("of a state that there is not", x, " 5i0;", 1);
        dueFault("no bytes of it: too early", x, "   ", 3);
        x.unmove(0, 0, 4, 0);
        dueFault("a 24th, then a 25th", x, "4a4; 4b4;", 5);
        dueFault("a 24th twice", x, "4a4;4a4;", 4);
        Checks.write(x, "4a4;  ");
        C.due("a 24th", x.moves(0), 1);
        C.due("a 24th", x.of(0, 1), 24);
        C.due("in a process with room the same text stands", x.process(1, 5), 1);
        C.due("in a process with room the same text stands", x.moves(1), 1);
    }

    private static void twentyFirst() {
        C.sentence("a 21st letter");
        C.due("20", wordFault("b".repeat(20)), 0);
        C.due("21", wordFault("b".repeat(21)), -30);
        C.due("22", wordFault("b".repeat(22)), -30);
        C.due("100", wordFault("b".repeat(100)), -30);
        C.due("blanks are no letters", wordFault("b ".repeat(20)), 0);
        C.due("blanks are no letters", wordFault("b ".repeat(20) + "b"), -50);
        C.due("the last byte", wordFault(" ".repeat(79) + "b".repeat(21)), -109);
    }

    private static void tooEarly() {
        C.sentence("the TEXT's length, if it ends too early (of MOVES an empty one, one of blanks alone, too)");
        C.due("empty", faultOf(2, ""), -10);
        C.due("a blank", faultOf(2, " "), -11);
        C.due("100 blanks", faultOf(2, " ".repeat(100)), -110);
        C.due("behind FROM", faultOf(2, "0"), -11);
        C.due("behind the letter", faultOf(2, "0a"), -12);
        C.due("behind TO", faultOf(2, "0a1"), -13);
        C.due("behind TO, with blanks", faultOf(2, "0a1   "), -16);
        C.due("in the second", faultOf(2, "0a1;1"), -15);
        C.due("in the second, with blanks", faultOf(2, "0a1; 1 "), -17);
        C.due("of 100 bytes", faultOf(2, "0a1" + " ".repeat(97)), -110);
        C.due("a word never does", wordFault(""), 1);
        C.due("a word never does", wordFault("   "), 1);
    }

    /** A right text of moves with one byte made wrong: the fault is there; cut off there, it is its length. */
    private static void everyPlace() {
        C.sentence("FAULT: the place of the first byte");
        String right = " 0a1 ;1 i2;2d0; ";
        C.due("right", faultOf(3, right), 3);
        for (int i = 0; i < right.length(); i++) {
            String wrong = right.substring(0, i) + "?" + right.substring(i + 1);
            C.due("wrong at " + i, faultOf(3, wrong), -10 - i);
            String cut = right.substring(0, i);
            int ended = (int) cut.chars().filter(c -> c == ';').count();
            C.due("cut off at " + i, faultOf(3, cut), cut.trim().endsWith(";") ? ended : -10 - i);
        }
    }

    private static void pastOfEachCall() {
        C.sentence("PASTS: each call told S, if it is not refused, leaves one");
        BesideWalk x = new BesideWalk();
        C.leavesPast("process", x, 1, () -> x.process(0, 3));
        x.process(0, 3);
        C.leavesPast("move", x, 1, () -> x.move(0, 0, 0, 1));
        x.move(0, 0, 0, 1);
        C.leavesPast("unmove", x, 0, () -> x.unmove(0, 0, 0, 1));
        C.leavesPast("hides", x, 1, () -> x.hides(0, 1));
        C.leavesPast("renames", x, 1, () -> x.renames(0, 0, 3));
        C.leavesPast("together", x, 2, () -> x.together(0, 0, 1, 1));
        C.leavesPast("presses", x, 2, () -> x.presses(0));
        Checks.write(x, "2a2;");
        C.leavesPast("moves", x, 1, () -> x.moves(0));
        C.quiet("of leaves none", x, 3, () -> x.of(0, 0));
        C.quiet("leads leaves none", x, 2, () -> x.leads(0, 0, 0));
        C.quiet("alike leaves none", x, 1, () -> x.alike(0, 0, 0, 0));
        C.quiet("holds leaves none", x, 0, () -> x.holds(0, 1, 0));
        C.quiet("fault leaves none", x, 1, () -> x.fault(0, 1, 0, -1));
        C.quiet("reason leaves none", x, 0, () -> x.reason(0, 1, 0));
        C.quiet("told leaves none", x, 2, () -> x.told(4));
        x.clear();
        C.quiet("behind leaves none", x, 1, () -> x.behind(0, 0));
        C.due("clear and type leave none", x.type('a'), 1);
        C.due("clear and type leave none", x.told(4), 2);
    }

    private static void pastWithoutChange() {
        C.sentence("also if nothing changes by it");
        BesideWalk x = new BesideWalk();
        C.leavesPast("process", x, 1, () -> x.process(2, 1));
        C.leavesPast("hides none", x, 0, () -> x.hides(2, 0));
        C.leavesPast("hides what is not there", x, 0, () -> x.hides(2, 15));
        C.leavesPast("renames to itself", x, 0, () -> x.renames(2, 1, 1));
        C.leavesPast("renames what is not there", x, 0, () -> x.renames(2, 1, 2));
        C.leavesPast("together", x, 1, () -> x.together(2, 2, 15, 2));
        C.leavesPast("presses", x, 1, () -> x.presses(2));
        x.hides(0, 0);
        x.presses(1);
        C.due("two stand", x.told(4), 2);
        C.due("back", x.back(), 1);
        C.due("back", x.back(), 0);
        C.refused("back", x, -3, x::back);
    }

    private static void noPastByFault() {
        C.sentence("(moves() with a FAULT none)");
        BesideWalk x = new BesideWalk();
        C.quiet("an empty text", x, -10, () -> x.moves(0));
        Checks.write(x, "0a0;0b0;0a0;");
        C.quiet("behind two right moves", x, -18, () -> x.moves(0));
        C.due("none", x.told(4), 0);
        C.refused("nowhere to go back to", x, -3, x::back);
        Checks.write(x, "0a0;0b0;");
        C.due("two right moves", x.moves(0), 2);
        C.due("one past for all moves of a text", x.told(4), 1);
        C.quiet("they stand now", x, -10, () -> x.moves(0));
        C.due("back", x.back(), 0);
        C.due("both are gone", x.of(0, 1), 0);
    }

    private static void fivePasts() {
        C.sentence("5 at most, older ones lost");
        BesideWalk x = new BesideWalk();
        for (int i = 1; i <= 5; i++) {
            x.process(0, i + 1);
            C.due("pasts", x.told(4), i);
        }
        for (int left = 4; left >= 0; left--) {
            C.due("five: back", x.back(), left);
            C.due("five: states", x.of(0, 0), left + 1);
        }
        C.refused("five: no sixth", x, -3, x::back);
        for (int i = 1; i <= 6; i++) {
            x.process(0, i + 1);
        }
        C.due("six: five stand", x.told(4), 5);
        for (int left = 4; left >= 0; left--) {
            C.due("six: back", x.back(), left);
            C.due("six: states", x.of(0, 0), left + 2);
        }
        C.refused("six: the oldest is lost", x, -3, x::back);
        C.due("six: all stays", x.of(0, 0), 2);
        for (int i = 0; i < 50; i++) {
            x.process(3, 1 + i % 8);
        }
        C.due("fifty: two back", x.back() + x.back(), 7);
        C.due("fifty: two back", x.of(3, 0), 8);
        x.process(3, 3);
        C.due("a new one behind those that are left", x.told(4), 4);
        C.due("a new one behind those that are left", x.back(), 3);
        C.due("a new one behind those that are left", x.of(3, 0), 8);
        C.due("and those that are left", x.back(), 2);
        C.due("and those that are left", x.of(3, 0), 7);
    }

    private static void backToProcesses() {
        C.sentence("to go back to (PROCESSES)");
        BesideWalk x = Checks.with(3, "0a1;1i2;2b0;", 2, "0i1;");
        long before = x.digest();
        C.due("the text does not belong to it", x.told(3), 0);
        x.together(0, 1, 0, 2);
        C.due("back", x.back(), 4);
        C.due("states and moves", x.digest(), before);
        x.presses(3);
        Checks.write(x, "abc");
        x.told(9);
        C.due("back", x.back(), 4);
        C.due("the text stays", x.told(3), 3);
        C.due("how often stays", x.told(0), 1);
        x.back();
        x.back();
        C.due("of each process what it was then: 0", x.of(0, 1), 3);
        C.due("of each process what it was then: 1", x.of(1, 0), 1);
        Checks.write(x, "ab");
        C.due("what follows from it, too", x.behind(0, 0), 1);
    }

    private static void refusedFirstOf() {
        C.sentence("the first of: BAD -2 a number is not as told; NO -3 as told; FULL -4 as told");
        BesideWalk x = new BesideWalk();
        x.process(0, 5);
        Checks.write(x, MOST);
        x.moves(0);
        C.refused("FULL", x, -4, () -> x.move(0, 4, 4, 4));
        C.refused("NO, FULL", x, -3, () -> x.move(0, 0, 4, 0));
        C.bad("BAD, FULL", x, () -> x.move(0, 0, 5, 0));
        C.bad("BAD, FULL", x, () -> x.move(0, 0, 4, 5));
        C.refused("NO", x, -3, () -> x.unmove(0, 4, 4, 4));
        C.bad("BAD, NO", x, () -> x.unmove(0, 4, 4, 5));
        C.refused("FULL", x, -4, () -> x.together(0, 0, 0, 0));
        C.bad("BAD, FULL", x, () -> x.together(0, 0, 0, 4));
        C.bad("BAD, FULL", x, () -> x.together(0, 0, 16, 0));
        C.refused("NO", x, -3, () -> x.fault(1, 1, 0, 0));
        C.bad("BAD, NO", x, () -> x.fault(1, 1, 0, -2));
        C.bad("BAD, NO", x, () -> x.fault(1, 1, 3, 0));
        C.bad("BAD, NO", x, () -> x.reason(1, 1, 3));
        C.bad("BAD, a FAULT", x, () -> x.moves(4));
        C.bad("BAD, a FAULT", x, () -> x.behind(0, 4));
        for (int i = 0; i < 4; i++) {
            x.type(32);
        }
        C.refused("FULL", x, -4, () -> x.type(32));
        C.bad("BAD, FULL", x, () -> x.type(128));
    }

    private static void refusedQuestions() {
        C.sentence("Refused (a question, too)");
        BesideWalk x = new BesideWalk();
        C.bad("of", x, () -> x.of(0, 6));
        C.bad("leads", x, () -> x.leads(0, 1, 0));
        C.bad("alike", x, () -> x.alike(0, 0, 0, 1));
        C.bad("behind", x, () -> x.behind(0, -1));
        C.bad("holds", x, () -> x.holds(0, 0, -1));
        C.bad("fault", x, () -> x.fault(0, 0, 0, -2));
        C.bad("reason", x, () -> x.reason(-1, 0, 0));
        C.bad("told", x, () -> x.told(5));
        C.refused("fault", x, -3, () -> x.fault(0, 0, 0, -1));
        C.refused("reason", x, -3, () -> x.reason(0, 0, 0));
        C.due("told", x.told(0), 8);
        C.due("told", x.told(1), 2);
    }

    /** Of two like objects one is given every refused call in between; they stay alike, their texts and pasts too. */
    private static void refusedChangesNothing() {
        C.sentence("changing nothing but how often");
        BesideWalk x = new BesideWalk();
        BesideWalk y = new BesideWalk();
        for (int step = 0; step < 7; step++) {
            change(x, step);
            change(y, step);
            disturb(x);
        }
        C.due("texts", x.told(3), y.told(3));
        C.due("texts as moves", x.moves(1), y.moves(1));
        C.due("texts as a word", x.behind(0, 0), y.behind(0, 0));
        for (int left = 4; left >= 0; left--) {
            C.due("pasts", x.back(), left);
            C.due("pasts", y.back(), left);
            for (int p = 0; p < 4; p++) {
                C.due("states", x.of(p, 0), y.of(p, 0));
                C.due("moves", x.of(p, 1), y.of(p, 1));
                C.due("moves of 0", x.leads(p, 0, 0), y.leads(p, 0, 0));
            }
        }
    }

    private static void change(BesideWalk x, int step) {
        switch (step) {
            case 0 -> x.process(0, 5);
            case 1 -> x.move(0, 0, 0, 4);
            case 2 -> x.together(0, 0, 0, 2);
            case 3 -> x.renames(0, 0, 1);
            case 4 -> Checks.write(x, "0b1;");
            case 5 -> x.process(3, 2);
            default -> x.move(3, 1, 4, 0);
        }
    }

    private static void disturb(BesideWalk x) {
        x.process(0, 0);
        x.process(-1, 4);
        x.move(0, 0, 9, 0);
        x.unmove(1, 0, 0, 0);
        x.hides(0, 16);
        x.renames(0, 0, 4);
        x.together(0, 1, -1, 0);
        x.presses(7);
        x.type(-1);
        x.moves(4);
        x.fault(0, 0, 0, 0);
    }

    private static void nothingCounts() {
        C.sentence("By a FAULT, and what MOVES of THE TEXT do, nothing counts");
        BesideWalk x = new BesideWalk();
        x.process(0, 5);
        Checks.write(x, "0a0;0a0;");
        C.quiet("a move that stands is not NO", x, -14, () -> x.moves(0));
        Checks.write(x, MOST + "4a4;");
        C.quiet("a 25th is not FULL", x, -106, () -> x.moves(0));
        Checks.write(x, "5a0;");
        C.quiet("a state that there is not is not BAD", x, -10, () -> x.moves(0));
        C.quiet("a word that is none is not BAD", x, -10, () -> x.behind(0, 0));
        Checks.write(x, "a".repeat(21));
        C.quiet("a 21st letter is not FULL", x, -30, () -> x.behind(0, 3));
        Checks.write(x, MOST);
        C.due("24 moves", x.moves(0), 24);
        C.due("nothing", x.told(0) + x.told(1) + x.told(2), 0);
    }
}
