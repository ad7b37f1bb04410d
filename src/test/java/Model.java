import java.util.ArrayList;
import java.util.Collections;
import java.util.List;

/**
 * The document once more, in another form: what is HEARD and SEEN is worked out anew from a picture of each CYCLE,
 * each NODE is made anew at the end of a CYCLE, and nothing is shared: a slip of the class shows as a difference.
 */
final class Model {
    /** A NODE, as it is at one time; never changed. */
    record N(int kind, int slot, int waits, int drift, int lie, int is, int age, int quiet, int good, int bad, int at,
            int rate, int sent) {
        N become(int what) {
            return new N(kind, slot, waits, drift, lie, what, 0, 0, 0, 0, at, rate, sent);
        }

        N clock(int newAt, int newRate) {
            return new N(kind, slot, waits, drift, lie, is, age, quiet, good, bad, newAt, newRate, sent);
        }

        N counts(int newAge, int newQuiet, int newGood, int newBad, int newSent) {
            return new N(kind, slot, waits, drift, lie, is, newAge, newQuiet, newGood, newBad, at, rate, newSent);
        }

        N set(int newKind, int newSlot, int newWait, int newDrift, int newLie) {
            return new N(newKind, newSlot, newWait, newDrift, newLie, is, age, quiet, good, bad, at, rate, sent);
        }

        boolean awake() {
            return is != 0 && is != 6;
        }
    }

    /** A CYCLE behind its step (a): the NODES as they are then, and who SENDS. */
    record Picture(List<N> nodes, List<Integer> senders) {
        List<Integer> heard(int n) {
            List<Integer> all = new ArrayList<>(senders);
            all.remove(Integer.valueOf(n));
            return nodes.get(n).awake() ? all : List.of();
        }

        int guide(int n) {
            return starters(n).stream().min((a, b) -> nodes.get(a).slot() - nodes.get(b).slot()).orElse(-6);
        }

        List<Integer> starters(int n) {
            return heard(n).stream().filter(o -> nodes.get(o).kind() == 1).toList();
        }

        int seen(int n, int other) {
            return nodes.get(other).at() + nodes.get(other).lie() - nodes.get(n).at();
        }
    }

    record Event(int cycle, int node, int is) {
    }

    /** All but the IMAGES; never changed. */
    record All(List<N> nodes, int bound, List<Picture> pictures, int cycles, List<Event> events) {
    }

    private static final Picture EMPTY = new Picture(firstNodes(), List.of());

    private All all = new All(firstNodes(), 100, List.of(EMPTY, EMPTY), 0, List.of());
    private final All[] images = new All[2];

    private static List<N> firstNodes() {
        List<N> nodes = new ArrayList<>();
        for (int n = 0; n < 6; n++) {
            nodes.add(new N(n < 3 ? 1 : 2, n + 1, 3, 0, 0, 0, 0, 0, 0, 0, 0, 0, 0));
        }
        return List.copyOf(nodes);
    }

    static int trimOf(List<Integer> numbers) {
        List<Integer> sorted = new ArrayList<>(numbers);
        Collections.sort(sorted);
        if (sorted.size() >= 3) {
            sorted.remove(0);
            sorted.remove(sorted.size() - 1);
        }
        return (sorted.get(0) + sorted.get(sorted.size() - 1)) / 2;
    }

    private static Picture stepA(List<N> nodes) {
        List<Integer> ready = new ArrayList<>();
        for (int n = 0; n < 6; n++) {
            N it = nodes.get(n);
            if (it.is() == 3 || it.is() == 4 || it.is() == 2 && it.age() >= 1) {
                ready.add(n);
            }
        }
        List<N> then = new ArrayList<>(nodes);
        List<Integer> senders = new ArrayList<>();
        for (int n : ready) {
            N it = nodes.get(n);
            boolean stops = it.is() == 2 && it.age() == 1 && ready.stream().anyMatch(o -> o != n
                && (nodes.get(o).is() != 2 || nodes.get(o).age() != 1 || nodes.get(o).slot() < it.slot()));
            if (stops) {
                then.set(n, it.become(1));
            } else {
                senders.add(n);
                then.set(n, it.counts(it.age(), it.quiet(), it.good(), it.bad(), it.sent() + 1));
            }
        }
        return new Picture(List.copyOf(then), List.copyOf(senders));
    }

    private static N follow(Picture p, int n, int what) {
        N it = p.nodes().get(n);
        N guide = p.nodes().get(p.guide(n));
        return it.clock(it.at() + p.seen(n, p.guide(n)), guide.drift() + guide.rate() - it.drift()).become(what);
    }

    private static N stepC(Picture p, Picture ahead, int n, boolean sign, boolean odd, int bound) {
        N it = p.nodes().get(n);
        boolean starter = it.kind() == 1;
        int starters = p.starters(n).size();
        switch (it.is()) {
            case 1:
                int quiet = p.heard(n).isEmpty() && !sign ? it.quiet() + 1 : 0;
                if (starter && p.guide(n) >= 0 && p.guide(n) == ahead.guide(n)) {
                    return follow(p, n, 3);
                }
                if (!starter && starters >= 2 && ahead.starters(n).size() >= 2) {
                    return follow(p, n, 4);
                }
                N quieter = it.counts(it.age(), quiet, 0, 0, it.sent());
                return starter && quiet >= it.waits() ? quieter.become(2) : quieter;
            case 2:
                return it.age() >= 3 && starters > 0 ? it.become(4) : it.age() >= 7 ? it.become(1) : it;
            case 3:
                return starters == 0 ? it.become(1) : it.age() >= 2 ? it.become(4) : it;
            case 4:
            case 5:
                return odd ? correct(p, ahead, n, bound) : it;
            default:
                return it;
        }
    }

    private static N correct(Picture p, Picture ahead, int n, int bound) {
        N it = p.nodes().get(n);
        List<Integer> seen = new ArrayList<>(List.of(0));
        List<Integer> moves = new ArrayList<>(List.of(0));
        for (int o : p.heard(n)) {
            seen.add(p.seen(n, o));
            if (ahead.senders().contains(o)) {
                moves.add(p.seen(n, o) - ahead.seen(n, o));
            }
        }
        int trim = trimOf(seen);
        if (p.heard(n).isEmpty() || trim > bound || trim < -bound) {
            if (it.is() == 4) {
                return it.become(5);
            }
            return it.bad() + 1 >= 3 ? it.become(6) : it.counts(it.age(), 0, 0, it.bad() + 1, it.sent());
        }
        int rate = it.rate() + trimOf(moves);
        N better = it.clock(it.at() + trim, rate > 100 ? 100 : rate < -100 ? -100 : rate);
        if (it.is() == 5 && it.good() + 1 >= 2) {
            return better.become(4);
        }
        return better.counts(it.age(), 0, it.good() + 1, 0, it.sent());
    }

    private static All cycle(All was) {
        Picture p = stepA(was.nodes());
        Picture ahead = was.pictures().get(1);
        boolean odd = was.cycles() % 2 == 1;
        List<N> then = new ArrayList<>();
        List<Event> events = new ArrayList<>(was.events());
        for (int n = 0; n < 6; n++) {
            int self = n;
            boolean sign = was.nodes().stream()
                .anyMatch(o -> o != was.nodes().get(self) && o.is() == 2 && o.age() == 0);
            N it = stepC(p, ahead, n, sign, odd, was.bound());
            boolean news = false;
            if (p.nodes().get(n).is() != was.nodes().get(n).is()) {
                events.add(new Event(was.cycles(), n, p.nodes().get(n).is()));
                news = true;
            }
            if (it.is() != p.nodes().get(n).is()) {
                events.add(new Event(was.cycles(), n, it.is()));
                news = true;
            }
            N moved = it.awake() ? it.clock(it.at() + it.drift() + it.rate(), it.rate()) : it;
            then.add(news ? moved
                : moved.counts(moved.age() + 1, moved.quiet(), moved.good(), moved.bad(), moved.sent()));
        }
        while (events.size() > 40) {
            events.remove(0);
        }
        return new All(List.copyOf(then), was.bound(), List.of(ahead, p), was.cycles() + 1, List.copyOf(events));
    }

    private static List<Integer> active(All a, int but) {
        List<Integer> some = new ArrayList<>();
        for (int n = 0; n < 6; n++) {
            if (n != but && a.nodes().get(n).is() == 4) {
                some.add(n);
            }
        }
        return some;
    }

    private static int set(List<Integer> some) {
        return some.stream().mapToInt(n -> 1 << n).sum();
    }

    private static int apart(All a, List<Integer> some) {
        int most = some.stream().mapToInt(n -> a.nodes().get(n).at()).max().orElse(0);
        int least = some.stream().mapToInt(n -> a.nodes().get(n).at()).min().orElse(0);
        return most - least;
    }

    private static boolean outside(int v, int least, int most) {
        return v < least || v > most;
    }

    private static All with(All a, int n, N it) {
        List<N> then = new ArrayList<>(a.nodes());
        then.set(n, it);
        return new All(List.copyOf(then), a.bound(), a.pictures(), a.cycles(), a.events());
    }

    int node(int n, int kind, int slot, int wait) {
        if (outside(n, 0, 5)) {
            return -1;
        }
        if (outside(kind, 1, 2) || outside(slot, 1, 9) || outside(wait, 1, 9)) {
            return -2;
        }
        N it = all.nodes().get(n);
        for (int o = 0; o < 6; o++) {
            if (it.is() != 0 || o != n && all.nodes().get(o).slot() == slot) {
                return -3;
            }
        }
        all = with(all, n, it.set(kind, slot, wait, it.drift(), it.lie()));
        return it.slot();
    }

    int clock(int n, int what, int v) {
        if (outside(n, 0, 5)) {
            return -1;
        }
        if (outside(what, 0, 1) || outside(v, what == 0 ? -50 : -400, what == 0 ? 50 : 400)) {
            return -2;
        }
        N it = all.nodes().get(n);
        all = with(all, n,
            it.set(it.kind(), it.slot(), it.waits(), what == 0 ? v : it.drift(), what == 1 ? v : it.lie()));
        return 1000 + (what == 0 ? it.drift() : it.lie());
    }

    int bound(int v) {
        if (outside(v, 0, 500)) {
            return -2;
        }
        int was = all.bound();
        all = new All(all.nodes(), v, all.pictures(), all.cycles(), all.events());
        return was;
    }

    int wake(int n, int at) {
        if (outside(n, 0, 5)) {
            return -1;
        }
        if (outside(at, -500, 500)) {
            return -2;
        }
        if (all.nodes().get(n).awake()) {
            return -3;
        }
        all = with(all, n, all.nodes().get(n).become(1).clock(at, 0).counts(0, 0, 0, 0, 0));
        return (int) all.nodes().stream().filter(N::awake).count();
    }

    int off(int n) {
        if (outside(n, 0, 5)) {
            return -1;
        }
        int was = all.nodes().get(n).is();
        all = with(all, n, all.nodes().get(n).become(0).clock(0, 0).counts(0, 0, 0, 0, 0));
        return was;
    }

    int run(int n) {
        if (outside(n, 1, 50)) {
            return -2;
        }
        for (int i = 0; i < n; i++) {
            all = cycle(all);
        }
        return set(active(all, -1));
    }

    int told(int n, int what) {
        if (outside(n, 0, 5)) {
            return -1;
        }
        if (outside(what, 0, 9)) {
            return -2;
        }
        N it = all.nodes().get(n);
        Picture last = all.pictures().get(1);
        int[] answers = {it.is(), it.age(), it.quiet(), it.good(), it.bad(), it.at() + 100000, it.rate() + 1000,
            it.sent(), last.guide(n), last.heard(n).size()};
        return answers[what];
    }

    int seen(int n, int other) {
        if (outside(n, 0, 5) || outside(other, 0, 5)) {
            return -1;
        }
        if (n == other) {
            return -2;
        }
        Picture last = all.pictures().get(1);
        return last.heard(n).contains(other) ? last.seen(n, other) + 100000 : -6;
    }

    int trim(int n, int a, int b, int c, int d) {
        if (outside(n, 1, 4)) {
            return -2;
        }
        List<Integer> some = List.of(a, b, c, d).subList(0, n);
        return some.stream().anyMatch(v -> outside(v, -5000, 5000)) ? -2 : trimOf(some) + 100000;
    }

    int event(int i, int what) {
        if (outside(what, 0, 2)) {
            return -2;
        }
        if (i == -1) {
            return all.events().size();
        }
        if (outside(i, 0, all.events().size() - 1)) {
            return -6;
        }
        Event e = all.events().get(i);
        return what == 0 ? e.cycle() : what == 1 ? e.node() : e.is();
    }

    int spread() {
        return apart(all, active(all, -1));
    }

    int soon() {
        List<Integer> due = new ArrayList<>();
        for (int n = 0; n < 6; n++) {
            if (all.nodes().get(n).awake()) {
                due.add(n);
            }
        }
        All then = all;
        for (int behind = 0; behind <= 200 && !due.isEmpty(); behind++) {
            if (active(then, -1).containsAll(due)) {
                return behind;
            }
            then = cycle(then);
        }
        return -6;
    }

    int bears(int n, int cycles, int d) {
        if (outside(n, 0, 5)) {
            return -1;
        }
        if (outside(cycles, 1, 40) || outside(d, 0, 999)) {
            return -2;
        }
        int best = -6;
        N it = all.nodes().get(n);
        for (int lie = 0; lie <= 400; lie += 10) {
            All then = with(all, n, it.set(it.kind(), it.slot(), it.waits(), it.drift(), lie));
            boolean borne = true;
            for (int i = 0; i < cycles && borne; i++) {
                then = cycle(then);
                borne = active(then, n).containsAll(active(all, n)) && apart(then, active(then, n)) <= d;
            }
            best = borne ? lie : best;
        }
        return best;
    }

    int image(int k) {
        if (outside(k, 0, 1)) {
            return -2;
        }
        images[k] = all;
        return 1;
    }

    int restore(int k) {
        if (outside(k, 0, 1)) {
            return -2;
        }
        if (images[k] == null) {
            return -3;
        }
        all = images[k];
        return 1;
    }

    int count(int what) {
        if (outside(what, 0, 5)) {
            return -2;
        }
        int halted = 0;
        for (int n = 0; n < 6; n++) {
            halted += all.nodes().get(n).is() == 6 ? 1 << n : 0;
        }
        int[] answers = {all.cycles(), set(all.pictures().get(1).senders()), set(active(all, -1)), halted, all.bound(),
            (images[0] == null ? 0 : 1) + (images[1] == null ? 0 : 2)};
        return answers[what];
    }
}
