import java.util.ArrayDeque;
import java.util.ArrayList;
import java.util.Deque;
import java.util.HashSet;
import java.util.LinkedHashSet;
import java.util.List;
import java.util.Set;
import java.util.TreeSet;

/** The document's words written down once more, as slowly and as literally as can be, to compare with. */
final class Naive {
    /** A move as three numbers; records compare by what they hold. */
    record Move(int from, int by, int to) { }

    record Pair(Object one, Object other) { }

    record Fault(List<Integer> word, int reason) { }

    record Proc(int n, Set<Move> moves) {
        Set<Integer> to(int from, int by) {
            Set<Integer> all = new TreeSet<>();
            for (Move m : moves) {
                if (m.from == from && m.by == by) {
                    all.add(m.to);
                }
            }
            return all;
        }

        Set<Integer> onSilently(Set<Integer> some) {
            Set<Integer> all = new TreeSet<>(some);
            boolean more = true;
            while (more) {
                more = false;
                for (Move m : moves) {
                    if (m.by == 4 && all.contains(m.from)) {
                        more |= all.add(m.to);
                    }
                }
            }
            return all;
        }

        Set<Integer> behind(List<Integer> word) {
            if (word.isEmpty()) {
                return onSilently(Set.of(0));
            }
            Set<Integer> reached = new TreeSet<>();
            int last = word.size() - 1;
            for (int s : behind(word.subList(0, last))) {
                reached.addAll(to(s, word.get(last)));
            }
            return onSilently(reached);
        }

        boolean stable(int s) {
            return to(s, 4).isEmpty();
        }

        Set<Integer> offers(int s) {
            Set<Integer> letters = new TreeSet<>();
            for (Move m : moves) {
                if (m.from == s && m.by < 4) {
                    letters.add(m.by);
                }
            }
            return letters;
        }

        /** Some state that can be got to silently lies on a ring of silent moves. */
        boolean lost(int s) {
            for (int t : onSilently(Set.of(s))) {
                if (onSilently(to(t, 4)).contains(t)) {
                    return true;
                }
            }
            return false;
        }
    }

    private final Proc[] now = new Proc[4];
    private final Deque<Proc[]> pasts = new ArrayDeque<>();
    private final StringBuilder text = new StringBuilder();
    private final int[] refused = new int[3];

    Naive() {
        for (int p = 0; p < 4; p++) {
            now[p] = new Proc(1, Set.of());
        }
    }

    private int refuse(int answer) {
        refused[-2 - answer]++;
        return answer;
    }

    private static boolean in(int v, int least, int most) {
        return v >= least && v <= most;
    }

    private void set(int p, Proc proc) {
        pasts.addLast(now.clone());
        if (pasts.size() > 5) {
            pasts.removeFirst();
        }
        now[p] = proc;
    }

    private static int bits(Set<Integer> set) {
        int all = 0;
        for (int v : set) {
            all += 1 << v;
        }
        return all;
    }

    int process(int p, int n) {
        if (!in(p, 0, 3) || !in(n, 1, 8)) {
            return refuse(-2);
        }
        int had = now[p].n;
        set(p, new Proc(n, Set.of()));
        return had;
    }

    private boolean badMove(int p, int from, int by, int to) {
        return !in(p, 0, 3) || !in(from, 0, now[p].n - 1) || !in(by, 0, 4) || !in(to, 0, now[p].n - 1);
    }

    int move(int p, int from, int by, int to) {
        if (badMove(p, from, by, to)) {
            return refuse(-2);
        }
        Set<Move> moves = new HashSet<>(now[p].moves);
        if (!moves.add(new Move(from, by, to))) {
            return refuse(-3);
        }
        if (moves.size() > 24) {
            return refuse(-4);
        }
        set(p, new Proc(now[p].n, moves));
        return moves.size();
    }

    int unmove(int p, int from, int by, int to) {
        if (badMove(p, from, by, to)) {
            return refuse(-2);
        }
        Set<Move> moves = new HashSet<>(now[p].moves);
        if (!moves.remove(new Move(from, by, to))) {
            return refuse(-3);
        }
        set(p, new Proc(now[p].n, moves));
        return moves.size();
    }

    int hides(int p, int letters) {
        if (!in(p, 0, 3) || !in(letters, 0, 15)) {
            return refuse(-2);
        }
        Set<Move> moves = new HashSet<>();
        for (Move m : now[p].moves) {
            boolean hidden = m.by < 4 && (letters / (1 << m.by)) % 2 == 1;
            moves.add(new Move(m.from, hidden ? 4 : m.by, m.to));
        }
        set(p, new Proc(now[p].n, moves));
        return moves.size();
    }

    int renames(int p, int a, int b) {
        if (!in(p, 0, 3) || !in(a, 0, 3) || !in(b, 0, 3)) {
            return refuse(-2);
        }
        Set<Move> moves = new HashSet<>();
        for (Move m : now[p].moves) {
            moves.add(new Move(m.from, m.by == a ? b : m.by, m.to));
        }
        set(p, new Proc(now[p].n, moves));
        return moves.size();
    }

    int together(int p, int q, int letters, int r) {
        if (!in(p, 0, 3) || !in(q, 0, 3) || !in(letters, 0, 15) || !in(r, 0, 3)) {
            return refuse(-2);
        }
        List<Pair> found = new ArrayList<>();
        found.add(new Pair(0, 0));
        Set<Move> moves = new LinkedHashSet<>();
        for (int i = 0; i < found.size(); i++) {
            int s = (Integer) found.get(i).one;
            int t = (Integer) found.get(i).other;
            for (int by = 0; by < 5; by++) {
                List<Pair> come = new ArrayList<>();
                if (by < 4 && (letters / (1 << by)) % 2 == 1) {
                    for (int s2 : now[p].to(s, by)) {
                        for (int t2 : now[q].to(t, by)) {
                            come.add(new Pair(s2, t2));
                        }
                    }
                } else {
                    for (int s2 : now[p].to(s, by)) {
                        come.add(new Pair(s2, t));
                    }
                    for (int t2 : now[q].to(t, by)) {
                        come.add(new Pair(s, t2));
                    }
                }
                for (Pair pair : come) {
                    if (!found.contains(pair)) {
                        found.add(pair);
                    }
                    moves.add(new Move(i, by, found.indexOf(pair)));
                }
            }
        }
        if (found.size() > 8 || moves.size() > 24) {
            return refuse(-4);
        }
        set(r, new Proc(found.size(), moves));
        return found.size();
    }

    /** The greatest relation: all pairs, less those that can not be, until none is left to go. */
    private static Set<Pair> alikes(Proc p, Proc q) {
        Set<Pair> all = new HashSet<>();
        for (int s = 0; s < p.n; s++) {
            for (int t = 0; t < q.n; t++) {
                all.add(new Pair(s, t));
            }
        }
        boolean more = true;
        while (more) {
            more = all.removeIf(pair -> !matched(p, q, pair, all));
        }
        return all;
    }

    private static boolean matched(Proc p, Proc q, Pair pair, Set<Pair> all) {
        for (int by = 0; by < 5; by++) {
            Set<Integer> left = p.to((Integer) pair.one, by);
            Set<Integer> right = q.to((Integer) pair.other, by);
            for (int s : left) {
                if (right.stream().noneMatch(t -> all.contains(new Pair(s, t)))) {
                    return false;
                }
            }
            for (int t : right) {
                if (left.stream().noneMatch(s -> all.contains(new Pair(s, t)))) {
                    return false;
                }
            }
        }
        return true;
    }

    int presses(int p) {
        if (!in(p, 0, 3)) {
            return refuse(-2);
        }
        Proc old = now[p];
        Set<Integer> reached = new TreeSet<>(Set.of(0));
        boolean more = true;
        while (more) {
            more = false;
            for (Move m : old.moves) {
                if (reached.contains(m.from)) {
                    more |= reached.add(m.to);
                }
            }
        }
        Set<Pair> alikes = alikes(old, old);
        int[] least = new int[8];
        List<Integer> kept = new ArrayList<>();
        for (int s : reached) {
            least[s] = -1;
            for (int t : reached) {
                if (least[s] == -1 && alikes.contains(new Pair(s, t))) {
                    least[s] = t;
                }
            }
            if (least[s] == s) {
                kept.add(s);
            }
        }
        Set<Move> moves = new HashSet<>();
        for (Move m : old.moves) {
            if (kept.contains(m.from)) {
                moves.add(new Move(kept.indexOf(m.from), m.by, kept.indexOf(least[m.to])));
            }
        }
        set(p, new Proc(kept.size(), moves));
        return kept.size();
    }

    int of(int p, int what) {
        if (!in(p, 0, 3) || !in(what, 0, 5)) {
            return refuse(-2);
        }
        Proc proc = now[p];
        int all = 0;
        for (int s = 0; s < proc.n; s++) {
            switch (what) {
                case 2 -> all += proc.to(s, 4).size();
                case 3 -> all |= bits(proc.offers(s));
                case 4 -> all += proc.stable(s) ? 1 << s : 0;
                case 5 -> all += proc.lost(s) ? 1 << s : 0;
                default -> { }
            }
        }
        return what == 0 ? proc.n : what == 1 ? proc.moves.size() : all;
    }

    int leads(int p, int from, int by) {
        if (badMove(p, from, by, from)) {
            return refuse(-2);
        }
        return bits(now[p].to(from, by));
    }

    int alike(int p, int s, int q, int t) {
        if (badMove(p, s, 0, s) || badMove(q, t, 0, t)) {
            return refuse(-2);
        }
        return alikes(now[p], now[q]).contains(new Pair(s, t)) ? 1 : 0;
    }

    int type(int c) {
        if (!in(c, 0, 127)) {
            return refuse(-2);
        }
        if (text.length() == 100) {
            return refuse(-4);
        }
        text.append((char) c);
        return text.length();
    }

    int clear() {
        int had = text.length();
        text.setLength(0);
        return had;
    }

    int moves(int p) {
        if (!in(p, 0, 3)) {
            return refuse(-2);
        }
        Set<Move> moves = new HashSet<>(now[p].moves);
        List<Integer> places = new ArrayList<>();
        for (int i = 0; i < text.length(); i++) {
            if (text.charAt(i) != ' ') {
                places.add(i);
            }
        }
        for (int i = 0; i < places.size(); i++) {
            char c = text.charAt(places.get(i));
            boolean figure = c >= '0' && c < '0' + now[p].n;
            boolean right = switch (i % 4) {
                case 0 -> figure && moves.size() < 24;
                case 1 -> "abcdi".indexOf(c) >= 0;
                case 2 -> figure;
                default -> c == ';';
            };
            if (!right) {
                return -10 - places.get(i);
            }
            if (i % 4 == 2) {
                int from = text.charAt(places.get(i - 2)) - '0';
                int by = "abcdi".indexOf(text.charAt(places.get(i - 1)));
                if (!moves.add(new Move(from, by, c - '0'))) {
                    return -10 - places.get(i - 2);
                }
            }
        }
        if (places.isEmpty() || places.size() % 4 != 0) {
            return -10 - text.length();
        }
        set(p, new Proc(now[p].n, moves));
        return places.size() / 4;
    }

    int behind(int p, int what) {
        if (!in(p, 0, 3) || !in(what, 0, 3)) {
            return refuse(-2);
        }
        List<Integer> word = new ArrayList<>();
        for (int i = 0; i < text.length(); i++) {
            char c = text.charAt(i);
            if (c != ' ') {
                if (c < 'a' || c > 'd' || word.size() == 20) {
                    return -10 - i;
                }
                word.add(c - 'a');
            }
        }
        Proc proc = now[p];
        Set<Integer> there = proc.behind(word);
        switch (what) {
            case 0:
                return bits(there);
            case 1:
                int next = 0;
                for (int a = 0; a < 4; a++) {
                    List<Integer> longer = new ArrayList<>(word);
                    longer.add(a);
                    next += proc.behind(longer).isEmpty() ? 0 : 1 << a;
                }
                return next;
            case 2:
                return there.stream().filter(proc::stable).mapToInt(s -> proc.offers(s).size()).min().orElse(-1);
            default:
                return there.stream().anyMatch(proc::lost) ? 1 : 0;
        }
    }

    /** By all words in their order; one whose states behind it were met before, in both, leads to nothing new. */
    private Fault faultOf(int p, int q, int mode) {
        Set<Pair> met = new HashSet<>();
        Deque<List<Integer>> words = new ArrayDeque<>();
        words.add(List.of());
        while (!words.isEmpty()) {
            List<Integer> word = words.removeFirst();
            Set<Integer> mine = now[p].behind(word);
            Set<Integer> other = now[q].behind(word);
            if (mine.isEmpty() || !met.add(new Pair(mine, other))) {
                continue;
            }
            int reason = reasonAt(now[p], now[q], mine, other);
            if (reason <= mode) {
                return new Fault(word, reason);
            }
            for (int a = 0; a < 4; a++) {
                List<Integer> longer = new ArrayList<>(word);
                longer.add(a);
                words.addLast(longer);
            }
        }
        return null;
    }

    private static int reasonAt(Proc p, Proc q, Set<Integer> mine, Set<Integer> other) {
        if (other.isEmpty()) {
            return 0;
        }
        for (int s : mine) {
            if (p.stable(s)
                && other.stream().noneMatch(t -> q.stable(t) && p.offers(s).containsAll(q.offers(t)))) {
                return 1;
            }
        }
        return mine.stream().anyMatch(p::lost) && other.stream().noneMatch(q::lost) ? 2 : 3;
    }

    private static boolean badContest(int p, int q, int mode) {
        return !in(p, 0, 3) || !in(q, 0, 3) || !in(mode, 0, 2);
    }

    int holds(int p, int q, int mode) {
        if (badContest(p, q, mode)) {
            return refuse(-2);
        }
        return faultOf(p, q, mode) == null ? 1 : 0;
    }

    int fault(int p, int q, int mode, int k) {
        if (badContest(p, q, mode) || k < -1) {
            return refuse(-2);
        }
        Fault fault = faultOf(p, q, mode);
        if (fault == null) {
            return refuse(-3);
        }
        if (k == -1) {
            return fault.word.size();
        }
        return k < fault.word.size() ? fault.word.get(k) : -5;
    }

    int reason(int p, int q, int mode) {
        if (badContest(p, q, mode)) {
            return refuse(-2);
        }
        Fault fault = faultOf(p, q, mode);
        return fault == null ? refuse(-3) : fault.reason;
    }

    int back() {
        if (pasts.isEmpty()) {
            return refuse(-3);
        }
        System.arraycopy(pasts.removeLast(), 0, now, 0, 4);
        return pasts.size();
    }

    int told(int what) {
        if (!in(what, 0, 4)) {
            return refuse(-2);
        }
        return what < 3 ? refused[what] : what == 3 ? text.length() : pasts.size();
    }

    long digest() {
        List<Integer> values = new ArrayList<>();
        for (int what = 0; what < 5; what++) {
            values.add(told(what));
        }
        for (int p = 0; p < 4; p++) {
            for (int what = 0; what < 6; what++) {
                values.add(of(p, what));
            }
            for (int s = 0; s < now[p].n; s++) {
                for (int by = 0; by < 5; by++) {
                    values.add(leads(p, s, by));
                }
            }
        }
        for (int p = 0; p < 4; p++) {
            for (int q = 0; q < 4; q++) {
                if (p != q) {
                    for (int mode = 0; mode < 3; mode++) {
                        values.add(holds(p, q, mode));
                    }
                    values.add(alike(p, 0, q, 0));
                }
            }
        }
        long h = 2617;
        for (int v : values) {
            h = 31 * h + v;
        }
        return h;
    }
}
