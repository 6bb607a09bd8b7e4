import java.util.Arrays;

/**
 * What one process may do, held against what another one allows.
 * The document (shared/DOC.md) tells each call as a numbered promise.
 */
public final class BesideWalk {
    public static final int NONE = -1, BAD = -2, NO = -3, FULL = -4;

    private static final int PROCESSES = 4;
    private static final int STATES = 8;
    private static final int LETTERS = 4;
    private static final int SILENT = 4;
    private static final int KINDS = 5;
    private static final int MOVES = 24;
    private static final int SETS = 256;
    private static final int MODES = 3;
    private static final int PASTS = 5;
    private static final int TEXT = 100;
    private static final int WORD = 20;
    private static final int NOT_SO_MANY = -5;
    private static final int FAULTY = -10;

    private final Proc[] processes = new Proc[PROCESSES];
    private final Outlook[] outlooks = new Outlook[PROCESSES];
    private final Pasts pasts = new Pasts();
    private final Text text = new Text();
    private final Search search = new Search();
    private final Likeness likeness = new Likeness();
    private final Pairing pairing = new Pairing();
    private final Proc draft = new Proc();
    private int bads = 0;
    private int noes = 0;
    private int fulls = 0;

    public BesideWalk() {
        for (int p = 0; p < PROCESSES; p++) {
            processes[p] = new Proc();
            outlooks[p] = new Outlook();
        }
    }

    // ---- processes

    public int process(int p, int n) {
        if (!isProcess(p) || n < 1 || n > STATES) {
            return refuse(BAD);
        }
        int had = processes[p].states;
        leavePast(p);
        processes[p].begin(n);
        return had;
    }

    public int move(int p, int from, int by, int to) {
        if (!isMove(p, from, by, to)) {
            return refuse(BAD);
        }
        if (processes[p].stands(from, by, to)) {
            return refuse(NO);
        }
        if (processes[p].count >= MOVES) {
            return refuse(FULL);
        }
        leavePast(p);
        processes[p].put(from, by, to);
        return processes[p].count;
    }

    public int unmove(int p, int from, int by, int to) {
        if (!isMove(p, from, by, to)) {
            return refuse(BAD);
        }
        if (!processes[p].stands(from, by, to)) {
            return refuse(NO);
        }
        leavePast(p);
        processes[p].drop(from, by, to);
        return processes[p].count;
    }

    public int hides(int p, int set) {
        if (!isProcess(p) || !isLetterSet(set)) {
            return refuse(BAD);
        }
        leavePast(p);
        for (int a = 0; a < LETTERS; a++) {
            if (has(set, a)) {
                processes[p].turn(a, SILENT);
            }
        }
        return processes[p].count;
    }

    public int renames(int p, int a, int b) {
        if (!isProcess(p) || !isLetter(a) || !isLetter(b)) {
            return refuse(BAD);
        }
        leavePast(p);
        processes[p].turn(a, b);
        return processes[p].count;
    }

    public int together(int p, int q, int set, int r) {
        if (!isProcess(p) || !isProcess(q) || !isLetterSet(set) || !isProcess(r)) {
            return refuse(BAD);
        }
        if (!pairing.builds(processes[p], processes[q], set, draft)) {
            return refuse(FULL);
        }
        leavePast(r);
        processes[r].become(draft);
        return processes[r].states;
    }

    public int presses(int p) {
        if (!isProcess(p)) {
            return refuse(BAD);
        }
        leavePast(p);
        likeness.lookInto(processes[p]);
        likeness.press(processes[p], draft);
        processes[p].become(draft);
        return processes[p].states;
    }

    public int of(int p, int what) {
        if (!isProcess(p) || what < 0 || what > 5) {
            return refuse(BAD);
        }
        return figure(p, what);
    }

    public int leads(int p, int from, int by) {
        if (!isState(p, from) || !isKind(by)) {
            return refuse(BAD);
        }
        return processes[p].targets(from, by);
    }

    public int alike(int p, int s, int q, int t) {
        if (!isState(p, s) || !isState(q, t)) {
            return refuse(BAD);
        }
        likeness.compare(processes[p], processes[q]);
        return likeness.across(s, t) ? 1 : 0;
    }

    // ---- words

    public int type(int c) {
        if (c < 0 || c > 127) {
            return refuse(BAD);
        }
        if (text.length >= TEXT) {
            return refuse(FULL);
        }
        text.append(c);
        return text.length;
    }

    public int clear() {
        int had = text.length;
        text.length = 0;
        return had;
    }

    public int moves(int p) {
        if (!isProcess(p)) {
            return refuse(BAD);
        }
        draft.become(processes[p]);
        int fault = text.readMoves(draft);
        if (fault != NONE) {
            return FAULTY - fault;
        }
        int came = draft.count - processes[p].count;
        leavePast(p);
        processes[p].become(draft);
        return came;
    }

    public int behind(int p, int what) {
        if (!isProcess(p) || what < 0 || what > 3) {
            return refuse(BAD);
        }
        int fault = text.readWord();
        if (fault != NONE) {
            return FAULTY - fault;
        }
        Outlook outlook = outlook(p);
        int set = outlook.start();
        for (int i = 0; i < text.wordLength; i++) {
            set = outlook.after(set, text.word[i]);
        }
        if (what == 0) {
            return set;
        }
        if (what == 1) {
            return outlook.possibleNext(set);
        }
        if (what == 2) {
            return outlook.fewestOffered(set);
        }
        return outlook.isLostIn(set) ? 1 : 0;
    }

    // ---- held against one another

    public int holds(int p, int q, int mode) {
        if (!isContest(p, q, mode)) {
            return refuse(BAD);
        }
        search.run(outlook(p), outlook(q), mode);
        return search.foundIn(mode) ? 0 : 1;
    }

    public int fault(int p, int q, int mode, int k) {
        if (!isContest(p, q, mode) || k < NONE) {
            return refuse(BAD);
        }
        search.run(outlook(p), outlook(q), mode);
        if (!search.foundIn(mode)) {
            return refuse(NO);
        }
        int length = search.wordLength(mode);
        if (k == NONE) {
            return length;
        }
        if (k >= length) {
            return NOT_SO_MANY;
        }
        return search.letterFromEnd(mode, length - 1 - k);
    }

    public int reason(int p, int q, int mode) {
        if (!isContest(p, q, mode)) {
            return refuse(BAD);
        }
        search.run(outlook(p), outlook(q), mode);
        if (!search.foundIn(mode)) {
            return refuse(NO);
        }
        return search.why[mode];
    }

    // ---- what there is

    public int back() {
        if (pasts.count == 0) {
            return refuse(NO);
        }
        pasts.restore(processes);
        for (int p = 0; p < PROCESSES; p++) {
            outlooks[p].fresh = false;
        }
        return pasts.count;
    }

    public int told(int what) {
        if (what < 0 || what > 4) {
            return refuse(BAD);
        }
        return tally(what);
    }

    public long digest() {
        long h = 2617;
        for (int what = 0; what <= 4; what++) {
            h = 31 * h + tally(what);
        }
        for (int p = 0; p < PROCESSES; p++) {
            h = digestOfProcess(h, p);
        }
        for (int p = 0; p < PROCESSES; p++) {
            for (int q = 0; q < PROCESSES; q++) {
                if (p != q) {
                    h = digestOfContest(h, p, q);
                }
            }
        }
        return h;
    }

    private long digestOfProcess(long before, int p) {
        long h = before;
        for (int what = 0; what <= 5; what++) {
            h = 31 * h + figure(p, what);
        }
        for (int s = 0; s < processes[p].states; s++) {
            for (int by = 0; by < KINDS; by++) {
                h = 31 * h + processes[p].targets(s, by);
            }
        }
        return h;
    }

    private long digestOfContest(long before, int p, int q) {
        long h = before;
        // A search by mode 0 goes on the longest and meets the faults of the other modes on its way.
        search.run(outlook(p), outlook(q), 0);
        for (int mode = 0; mode < MODES; mode++) {
            h = 31 * h + (search.foundIn(mode) ? 0 : 1);
        }
        likeness.compare(processes[p], processes[q]);
        return 31 * h + (likeness.across(0, 0) ? 1 : 0);
    }

    private int tally(int what) {
        switch (what) {
            case 0:
                return bads;
            case 1:
                return noes;
            case 2:
                return fulls;
            case 3:
                return text.length;
            default:
                return pasts.count;
        }
    }

    private int figure(int p, int what) {
        switch (what) {
            case 0:
                return processes[p].states;
            case 1:
                return processes[p].count;
            case 2:
                return processes[p].countBy(SILENT);
            case 3:
                return processes[p].lettersUsed();
            case 4:
                return outlook(p).stable;
            default:
                return outlook(p).lost;
        }
    }

    /** A process is about to change: what there is now can be gone back to. */
    private void leavePast(int p) {
        pasts.keep(processes);
        outlooks[p].fresh = false;
    }

    private Outlook outlook(int p) {
        if (!outlooks[p].fresh) {
            outlooks[p].look(processes[p]);
        }
        return outlooks[p];
    }

    private int refuse(int answer) {
        if (answer == BAD) {
            bads++;
        } else if (answer == NO) {
            noes++;
        } else {
            fulls++;
        }
        return answer;
    }

    private boolean isState(int p, int s) {
        return isProcess(p) && s >= 0 && s < processes[p].states;
    }

    private boolean isMove(int p, int from, int by, int to) {
        return isState(p, from) && isKind(by) && isState(p, to);
    }

    private static boolean isContest(int p, int q, int mode) {
        return isProcess(p) && isProcess(q) && mode >= 0 && mode < MODES;
    }

    private static boolean isProcess(int p) {
        return p >= 0 && p < PROCESSES;
    }

    private static boolean isLetter(int a) {
        return a >= 0 && a < LETTERS;
    }

    private static boolean isKind(int by) {
        return by >= 0 && by < KINDS;
    }

    private static boolean isLetterSet(int set) {
        return set >= 0 && set < 1 << LETTERS;
    }

    private static boolean has(int set, int member) {
        return (set >> member & 1) != 0;
    }

    /** States and moves, and nothing that is worked out from them. */
    private static final class Proc {
        int states = 1;
        int count = 0;
        final int[] lead = new int[STATES * KINDS];

        void begin(int n) {
            states = n;
            count = 0;
            Arrays.fill(lead, 0);
        }

        void become(Proc other) {
            states = other.states;
            count = other.count;
            System.arraycopy(other.lead, 0, lead, 0, STATES * KINDS);
        }

        int targets(int from, int by) {
            return lead[from * KINDS + by];
        }

        boolean stands(int from, int by, int to) {
            return has(targets(from, by), to);
        }

        void put(int from, int by, int to) {
            setTargets(from, by, targets(from, by) | 1 << to);
        }

        void drop(int from, int by, int to) {
            setTargets(from, by, targets(from, by) & ~(1 << to));
        }

        /** Moves of one kind become moves of another one. */
        void turn(int kind, int into) {
            if (kind == into) {
                return;
            }
            for (int s = 0; s < states; s++) {
                setTargets(s, into, targets(s, into) | targets(s, kind));
                setTargets(s, kind, 0);
            }
        }

        int countBy(int by) {
            int number = 0;
            for (int s = 0; s < states; s++) {
                number += Integer.bitCount(targets(s, by));
            }
            return number;
        }

        int lettersUsed() {
            int letters = 0;
            for (int s = 0; s < states; s++) {
                letters |= offers(s);
            }
            return letters;
        }

        int offers(int s) {
            int letters = 0;
            for (int a = 0; a < LETTERS; a++) {
                if (targets(s, a) != 0) {
                    letters |= 1 << a;
                }
            }
            return letters;
        }

        /** States that can be got to from 0 by any moves. */
        int reached() {
            int set = 1;
            for (int round = 0; round < states; round++) {
                int wider = set | successors(set);
                if (wider == set) {
                    break;
                }
                set = wider;
            }
            return set;
        }

        private int successors(int set) {
            int all = 0;
            for (int s = 0; s < states; s++) {
                if (has(set, s)) {
                    for (int by = 0; by < KINDS; by++) {
                        all |= targets(s, by);
                    }
                }
            }
            return all;
        }

        private void setTargets(int from, int by, int set) {
            count += Integer.bitCount(set) - Integer.bitCount(targets(from, by));
            lead[from * KINDS + by] = set;
        }
    }

    /** What follows from a process's moves, ready for every set of its states; stale until it looks anew. */
    private static final class Outlook {
        boolean fresh = false;
        int stable = 0;
        int lost = 0;
        private int states = 1;
        private final int[] offers = new int[STATES];
        private final int[] onward = new int[STATES];
        /** By a set of states: the sets that the letters lead to, eight bits each, so that one OR joins all four. */
        private final int[] next = new int[SETS];
        /** By a set of states: bit o, if a stable one offers just o. */
        private final int[] offered = new int[SETS];
        /** By a set of states: bit o, if a stable one offers o or less. */
        private final int[] allowed = new int[SETS];

        void look(Proc proc) {
            states = proc.states;
            stable = 0;
            for (int s = 0; s < states; s++) {
                offers[s] = proc.offers(s);
                if (proc.targets(s, SILENT) == 0) {
                    stable |= 1 << s;
                }
            }
            findLost(proc);
            findOnward(proc);
            fillSingles(proc);
            fillSets();
            fresh = true;
        }

        int start() {
            return onward[0];
        }

        int after(int set, int letter) {
            return next[set] >> letter * STATES & SETS - 1;
        }

        /** Whether each stable state of a set here has one of a set there that offers nothing more. */
        boolean refusesWithin(int set, Outlook there, int setThere) {
            return (offered[set] & ~there.allowed[setThere]) == 0;
        }

        boolean isLostIn(int set) {
            return (set & lost) != 0;
        }

        int possibleNext(int set) {
            int letters = 0;
            for (int s = 0; s < states; s++) {
                if (has(set, s)) {
                    letters |= offers[s];
                }
            }
            return letters;
        }

        int fewestOffered(int set) {
            int fewest = NONE;
            for (int s = 0; s < states; s++) {
                int number = Integer.bitCount(offers[s]);
                if (has(set & stable, s) && (fewest == NONE || number < fewest)) {
                    fewest = number;
                }
            }
            return fewest;
        }

        /** Those stay lost that have a silent move to one that stays so. */
        private void findLost(Proc proc) {
            int left = (1 << states) - 1;
            for (int round = 0; round < states; round++) {
                for (int s = 0; s < states; s++) {
                    if ((proc.targets(s, SILENT) & left) == 0) {
                        left &= ~(1 << s);
                    }
                }
            }
            lost = left;
        }

        private void findOnward(Proc proc) {
            for (int s = 0; s < states; s++) {
                onward[s] = 1 << s | proc.targets(s, SILENT);
            }
            for (int over = 0; over < states; over++) {
                for (int s = 0; s < states; s++) {
                    if (has(onward[s], over)) {
                        onward[s] |= onward[over];
                    }
                }
            }
        }

        private void fillSingles(Proc proc) {
            for (int s = 0; s < states; s++) {
                int single = 1 << s;
                next[single] = 0;
                for (int a = 0; a < LETTERS; a++) {
                    next[single] |= onwardFrom(proc.targets(s, a)) << a * STATES;
                }
                offered[single] = has(stable, s) ? 1 << offers[s] : 0;
                allowed[single] = has(stable, s) ? setsHolding(offers[s]) : 0;
            }
        }

        private int onwardFrom(int set) {
            int all = 0;
            for (int s = 0; s < states; s++) {
                if (has(set, s)) {
                    all |= onward[s];
                }
            }
            return all;
        }

        private static int setsHolding(int letters) {
            int sets = 0;
            for (int o = 0; o < 1 << LETTERS; o++) {
                if ((o & letters) == letters) {
                    sets |= 1 << o;
                }
            }
            return sets;
        }

        /** Each set is its least state and the rest, which is a smaller number and so is ready. */
        private void fillSets() {
            for (int set = 1; set < 1 << states; set++) {
                int least = set & -set;
                int rest = set - least;
                next[set] = next[least] | next[rest];
                offered[set] = offered[least] | offered[rest];
                allowed[set] = allowed[least] | allowed[rest];
            }
        }
    }

    /** Words in the order of their lengths, like ones in that of their letters, until a fault is met. */
    private static final class Search {
        private static final int PAIRS = SETS * SETS;
        private static final int NO_REASON = 3;

        final int[] why = new int[MODES];
        /** By mode: where in the queue the first fault stands. */
        private final int[] found = new int[MODES];
        private final int[] seen = new int[PAIRS / 32];
        private int[] pairs = new int[64];
        private int[] parents = new int[64];
        private byte[] letters = new byte[64];
        private int size = 0;

        void run(Outlook p, Outlook q, int mode) {
            forget();
            enqueue(p.start() * SETS + q.start(), NONE, 0);
            for (int head = 0; head < size && head < PAIRS; head++) {
                int mine = pairs[head] / SETS;
                int other = pairs[head] % SETS;
                note(head, reasonAt(p, q, mine, other));
                if (foundIn(mode)) {
                    return;
                }
                for (int a = 0; a < LETTERS; a++) {
                    int after = p.after(mine, a);
                    if (after != 0) {
                        enqueue(after * SETS + q.after(other, a), head, a);
                    }
                }
            }
        }

        boolean foundIn(int mode) {
            return found[mode] != NONE;
        }

        int wordLength(int mode) {
            int length = 0;
            for (int at = found[mode]; at > 0 && length < PAIRS; at = parents[at]) {
                length++;
            }
            return length;
        }

        int letterFromEnd(int mode, int steps) {
            int at = found[mode];
            for (int i = 0; i < steps && at > 0; i++) {
                at = parents[at];
            }
            return at > 0 ? letters[at] : NOT_SO_MANY;
        }

        /** Only what the last search has marked is wiped: most searches are short. */
        private void forget() {
            for (int i = 0; i < size; i++) {
                seen[pairs[i] / 32] = 0;
            }
            size = 0;
            Arrays.fill(found, NONE);
        }

        private void enqueue(int pair, int parent, int letter) {
            int bit = 1 << pair % 32;
            if ((seen[pair / 32] & bit) != 0 || size >= PAIRS) {
                return;
            }
            if (size == pairs.length) {
                grow();
            }
            seen[pair / 32] |= bit;
            pairs[size] = pair;
            parents[size] = parent;
            letters[size] = (byte) letter;
            size++;
        }

        private void grow() {
            int length = Math.min(2 * size, PAIRS);
            pairs = Arrays.copyOf(pairs, length);
            parents = Arrays.copyOf(parents, length);
            letters = Arrays.copyOf(letters, length);
        }

        private void note(int place, int reason) {
            for (int mode = reason; mode < MODES; mode++) {
                if (found[mode] == NONE) {
                    found[mode] = place;
                    why[mode] = reason;
                }
            }
        }

        private static int reasonAt(Outlook p, Outlook q, int mine, int other) {
            if (other == 0) {
                return 0;
            }
            if (!p.refusesWithin(mine, q, other)) {
                return 1;
            }
            if (p.isLostIn(mine) && !q.isLostIn(other)) {
                return 2;
            }
            return NO_REASON;
        }
    }

    /** Which states, of one process or of two side by side, are alike. */
    private static final class Likeness {
        private static final int NODES = 2 * STATES;

        private final int[] lead = new int[NODES * KINDS];
        private final int[] image = new int[NODES * KINDS];
        private final int[] like = new int[NODES];
        private final int[] numbers = new int[STATES];
        private int nodes = 0;
        private int second = 0;

        void lookInto(Proc proc) {
            nodes = 0;
            join(proc);
            findAlike();
        }

        /** The states of q stand behind those of p, as if the two were one process. */
        void compare(Proc p, Proc q) {
            nodes = 0;
            join(p);
            second = nodes;
            join(q);
            findAlike();
        }

        /** Whether a state of the first process is alike to one of the second. */
        boolean across(int s, int t) {
            return has(like[s], second + t);
        }

        /** The process that was looked into is written, pressed, into another one. */
        void press(Proc from, Proc into) {
            int reached = from.reached();
            int kept = 0;
            for (int s = 0; s < from.states; s++) {
                if (has(reached, s) && standIn(s, reached) == s) {
                    numbers[s] = kept;
                    kept++;
                }
            }
            into.begin(kept);
            for (int s = 0; s < from.states; s++) {
                if (has(reached, s) && standIn(s, reached) == s) {
                    pressMoves(from, s, reached, into);
                }
            }
        }

        private void pressMoves(Proc from, int s, int reached, Proc into) {
            for (int by = 0; by < KINDS; by++) {
                for (int t = 0; t < from.states; t++) {
                    if (from.stands(s, by, t)) {
                        into.put(numbers[s], by, numbers[standIn(t, reached)]);
                    }
                }
            }
        }

        /** The least of those alike that can be got to; s itself, if it can be got to, is one of them. */
        private int standIn(int s, int reached) {
            for (int least = 0; least < s; least++) {
                if (has(like[s] & reached, least)) {
                    return least;
                }
            }
            return s;
        }

        private void join(Proc proc) {
            int first = nodes;
            for (int s = 0; s < proc.states; s++) {
                for (int by = 0; by < KINDS; by++) {
                    lead[nodes * KINDS + by] = proc.targets(s, by) << first;
                }
                nodes++;
            }
        }

        /** All are taken for alike, then those go apart that have a move which the other one can not match. */
        private void findAlike() {
            for (int i = 0; i < nodes; i++) {
                like[i] = (1 << nodes) - 1;
            }
            for (int round = 0; round < nodes; round++) {
                findImages();
                if (!splits()) {
                    break;
                }
            }
        }

        private void findImages() {
            for (int row = 0; row < nodes * KINDS; row++) {
                int all = 0;
                for (int i = 0; lead[row] >> i != 0 && i < nodes; i++) {
                    if (has(lead[row], i)) {
                        all |= like[i];
                    }
                }
                image[row] = all;
            }
        }

        private boolean splits() {
            boolean split = false;
            for (int i = 0; i < nodes; i++) {
                for (int j = 0; j < nodes; j++) {
                    if (has(like[i], j) && !sameImages(i, j)) {
                        like[i] &= ~(1 << j);
                        split = true;
                    }
                }
            }
            return split;
        }

        private boolean sameImages(int i, int j) {
            for (int by = 0; by < KINDS; by++) {
                if (image[i * KINDS + by] != image[j * KINDS + by]) {
                    return false;
                }
            }
            return true;
        }
    }

    /** Two processes put side by side. */
    private static final class Pairing {
        private final int[] numbers = new int[STATES * STATES];
        private final int[] pairs = new int[STATES];
        private int found = 0;
        private boolean fits = true;

        /** False: there would be too many states or moves. The result stands apart, so p and q stay as they are. */
        boolean builds(Proc p, Proc q, int set, Proc into) {
            Arrays.fill(numbers, NONE);
            found = 0;
            fits = true;
            into.begin(STATES);
            number(0, 0);
            for (int here = 0; here < found && here < STATES && fits; here++) {
                for (int by = 0; by < KINDS && fits; by++) {
                    if (by < LETTERS && has(set, by)) {
                        both(p, q, here, by, into);
                    } else {
                        oneAlone(p, q, here, by, into);
                    }
                }
            }
            into.states = found;
            return fits;
        }

        private void both(Proc p, Proc q, int here, int by, Proc into) {
            int left = p.targets(pairs[here] / STATES, by);
            int right = q.targets(pairs[here] % STATES, by);
            for (int s = 0; s < STATES; s++) {
                for (int t = 0; t < STATES; t++) {
                    if (has(left, s) && has(right, t)) {
                        add(here, by, number(s, t), into);
                    }
                }
            }
        }

        private void oneAlone(Proc p, Proc q, int here, int by, Proc into) {
            int s = pairs[here] / STATES;
            int t = pairs[here] % STATES;
            for (int to = 0; to < STATES; to++) {
                if (p.stands(s, by, to)) {
                    add(here, by, number(to, t), into);
                }
            }
            for (int to = 0; to < STATES; to++) {
                if (q.stands(t, by, to)) {
                    add(here, by, number(s, to), into);
                }
            }
        }

        private int number(int s, int t) {
            int pair = s * STATES + t;
            if (numbers[pair] == NONE && found < STATES) {
                numbers[pair] = found;
                pairs[found] = pair;
                found++;
            }
            return numbers[pair];
        }

        private void add(int from, int by, int to, Proc into) {
            if (to == NONE) {
                fits = false;
                return;
            }
            into.put(from, by, to);
            if (into.count > MOVES) {
                fits = false;
            }
        }
    }

    /** The processes as they were ahead of the last calls that changed them. */
    private static final class Pasts {
        int count = 0;
        private int next = 0;
        private final Proc[] rows = new Proc[PASTS * PROCESSES];

        Pasts() {
            for (int i = 0; i < PASTS * PROCESSES; i++) {
                rows[i] = new Proc();
            }
        }

        void keep(Proc[] now) {
            for (int p = 0; p < PROCESSES; p++) {
                rows[next * PROCESSES + p].become(now[p]);
            }
            next = (next + 1) % PASTS;
            count = Math.min(count + 1, PASTS);
        }

        void restore(Proc[] now) {
            next = (next + PASTS - 1) % PASTS;
            count--;
            for (int p = 0; p < PROCESSES; p++) {
                now[p].become(rows[next * PROCESSES + p]);
            }
        }
    }

    /** The text, read as a word or as moves. */
    private static final class Text {
        private static final int FROM = 0;
        private static final int BY = 1;
        private static final int TO = 2;
        private static final int END = 3;

        int length = 0;
        int wordLength = 0;
        final int[] word = new int[WORD];
        private final byte[] bytes = new byte[TEXT];
        private int stage = FROM;
        private int firstByte = 0;
        private int from = 0;
        private int by = 0;

        void append(int c) {
            if (length < TEXT) {
                bytes[length] = (byte) c;
                length++;
            }
        }

        /** The place of a fault, or NONE: the word is ready. */
        int readWord() {
            wordLength = 0;
            for (int i = 0; i < length; i++) {
                if (bytes[i] != ' ') {
                    int letter = bytes[i] - 'a';
                    if (!isLetter(letter) || wordLength >= WORD) {
                        return i;
                    }
                    word[wordLength] = letter;
                    wordLength++;
                }
            }
            return NONE;
        }

        /** The place of a fault, or NONE: all moves have come to a process. */
        int readMoves(Proc into) {
            boolean any = false;
            stage = FROM;
            for (int i = 0; i < length; i++) {
                if (bytes[i] != ' ') {
                    int fault = readByte(i, into);
                    if (fault != NONE) {
                        return fault;
                    }
                    any = true;
                }
            }
            return any && stage == FROM ? NONE : length;
        }

        private int readByte(int place, Proc into) {
            int c = bytes[place];
            switch (stage) {
                case FROM:
                    return readFrom(place, c - '0', into);
                case BY:
                    return readBy(place, kindOf(c));
                case TO:
                    return readTo(place, c - '0', into);
                default:
                    stage = FROM;
                    return c == ';' ? NONE : place;
            }
        }

        private int readFrom(int place, int state, Proc into) {
            if (state < 0 || state >= into.states || into.count >= MOVES) {
                return place;
            }
            firstByte = place;
            from = state;
            stage = BY;
            return NONE;
        }

        private static int kindOf(int c) {
            if (c == 'i') {
                return SILENT;
            }
            return isLetter(c - 'a') ? c - 'a' : NONE;
        }

        private int readBy(int place, int kind) {
            if (kind == NONE) {
                return place;
            }
            by = kind;
            stage = TO;
            return NONE;
        }

        private int readTo(int place, int state, Proc into) {
            if (state < 0 || state >= into.states) {
                return place;
            }
            if (into.stands(from, by, state)) {
                return firstByte;
            }
            into.put(from, by, state);
            stage = END;
            return NONE;
        }
    }
}
