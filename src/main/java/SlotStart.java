/**
 * A bus whose turns are slots of a cycle, and that has no master.
 *
 * Words in capitals are the terms of the document. Every row is made in a constructor and used
 * again, so no call makes an object.
 */
public final class SlotStart {
    public static final int UNKNOWN = -1, OUTSIDE = -2, STATE = -3, NONE = -6;

    private static final int NODES = 6;
    private static final int IMAGES = 2;
    private static final int EVENTS = 40;

    private static final int STARTER = 1, FOLLOWER = 2;
    private static final int OFF = 0, LISTENING = 1, LEADING = 2, JOINING = 3, ACTIVE = 4, PASSIVE = 5,
        HALTED = 6;

    private static final int STARTERS_AT_FIRST = 3;
    private static final int LAST_SLOT = 9, LAST_WAIT = 9, FIRST_WAIT = 3;
    private static final int MOST_DRIFT = 50, MOST_LIE = 400, LIE_STEP = 10;
    private static final int MOST_BOUND = 500, FIRST_BOUND = 100;
    private static final int MOST_AT = 500, MOST_RATE = 100;
    private static final int MOST_RUN = 50, MOST_SOON = 200;
    private static final int MOST_BEARS = 40, MOST_APART = 999;
    private static final int MOST_NUMBERS = 4, MOST_NUMBER = 5000;

    private static final int LEADER_MAY_STAY = 3, LEADER_GIVES_UP = 7, JOINER_MAY_STAY = 2;
    private static final int ENOUGH_STARTERS = 2, GOOD_ENOUGH = 2, TOO_BAD = 3;

    /** What is added to an answer that may be below 0, so that it is not taken for a refusal. */
    private static final int TICKS_BASE = 100000, SMALL_BASE = 1000;

    private final Bus bus;
    /** The bus on which what would come is tried out. */
    private final Bus trial;
    private final Bus[] images;
    /** The set of IMAGES that are kept. */
    private int kept;
    /** The numbers of a call of trim. */
    private final Numbers given;

    public SlotStart() {
        bus = new Bus();
        trial = new Bus();
        images = new Bus[IMAGES];
        for (int k = 0; k < images.length; k++) {
            images[k] = new Bus();
        }
        kept = 0;
        given = new Numbers();
    }

    // ---- 1 nodes

    public int node(int node, int kind, int slot, int wait) {
        if (!isNode(node)) {
            return UNKNOWN;
        }
        boolean isKind = kind == STARTER || kind == FOLLOWER;
        if (!isKind || !isWithin(slot, 1, LAST_SLOT) || !isWithin(wait, 1, LAST_WAIT)) {
            return OUTSIDE;
        }
        Node it = bus.nodes[node];
        if (it.is != OFF || bus.isSlotOfAnother(slot, node)) {
            return STATE;
        }
        int was = it.slot;
        it.kind = kind;
        it.slot = slot;
        it.wait = wait;
        return was;
    }

    public int clock(int node, int what, int v) {
        if (!isNode(node)) {
            return UNKNOWN;
        }
        Node it = bus.nodes[node];
        if (what == 0 && isWithin(v, -MOST_DRIFT, MOST_DRIFT)) {
            int was = it.drift;
            it.drift = v;
            return was + SMALL_BASE;
        }
        if (what == 1 && isWithin(v, -MOST_LIE, MOST_LIE)) {
            int was = it.lie;
            it.lie = v;
            return was + SMALL_BASE;
        }
        return OUTSIDE;
    }

    public int bound(int v) {
        if (!isWithin(v, 0, MOST_BOUND)) {
            return OUTSIDE;
        }
        int was = bus.bound;
        bus.bound = v;
        return was;
    }

    public int wake(int node, int at) {
        if (!isNode(node)) {
            return UNKNOWN;
        }
        if (!isWithin(at, -MOST_AT, MOST_AT)) {
            return OUTSIDE;
        }
        Node it = bus.nodes[node];
        if (it.isAwake()) {
            return STATE;
        }
        it.beginAnew(LISTENING, at);
        return Integer.bitCount(bus.awake());
    }

    public int off(int node) {
        if (!isNode(node)) {
            return UNKNOWN;
        }
        Node it = bus.nodes[node];
        int was = it.is;
        it.beginAnew(OFF, 0);
        return was;
    }

    // ---- 2 cycles

    public int run(int n) {
        if (!isWithin(n, 1, MOST_RUN)) {
            return OUTSIDE;
        }
        for (int i = 0; i < n; i++) {
            bus.passCycle();
        }
        return bus.thatAre(ACTIVE);
    }

    public int told(int node, int what) {
        if (!isNode(node)) {
            return UNKNOWN;
        }
        Node it = bus.nodes[node];
        switch (what) {
            case 0: return it.is;
            case 1: return it.age;
            case 2: return it.quiet;
            case 3: return it.good;
            case 4: return it.bad;
            case 5: return it.at + TICKS_BASE;
            case 6: return it.rate + SMALL_BASE;
            case 7: return it.sent;
            case 8: return it.last.guide;
            case 9: return Integer.bitCount(it.last.heard);
            default: return OUTSIDE;
        }
    }

    public int seen(int node, int other) {
        if (!isNode(node) || !isNode(other)) {
            return UNKNOWN;
        }
        if (node == other) {
            return OUTSIDE;
        }
        Hearing last = bus.nodes[node].last;
        return isIn(last.heard, other) ? last.seen[other] + TICKS_BASE : NONE;
    }

    public int trim(int n, int a, int b, int c, int d) {
        if (!isWithin(n, 1, MOST_NUMBERS)) {
            return OUTSIDE;
        }
        given.clear();
        given.put(a);
        if (n >= 2) {
            given.put(b);
        }
        if (n >= 3) {
            given.put(c);
        }
        if (n >= 4) {
            given.put(d);
        }
        if (!given.areWithin(-MOST_NUMBER, MOST_NUMBER)) {
            return OUTSIDE;
        }
        return given.trimmed() + TICKS_BASE;
    }

    public int event(int i, int what) {
        if (!isWithin(what, 0, 2)) {
            return OUTSIDE;
        }
        if (i == -1) {
            return bus.log.size;
        }
        int place = bus.log.placeOf(i);
        if (place < 0) {
            return NONE;
        }
        switch (what) {
            case 0: return bus.log.cycles[place];
            case 1: return bus.log.nodes[place];
            default: return bus.log.things[place];
        }
    }

    // ---- 3 how far apart, how soon

    public int spread() {
        return bus.apart(bus.thatAre(ACTIVE));
    }

    public int soon() {
        int due = bus.awake();
        if (due == 0) {
            return NONE;
        }
        trial.copy(bus);
        for (int behind = 0; behind <= MOST_SOON; behind++) {
            if (areAllIn(due, trial.thatAre(ACTIVE))) {
                return behind;
            }
            trial.passCycle();
        }
        return NONE;
    }

    public int bears(int node, int n, int d) {
        if (!isNode(node)) {
            return UNKNOWN;
        }
        if (!isWithin(n, 1, MOST_BEARS) || !isWithin(d, 0, MOST_APART)) {
            return OUTSIDE;
        }
        // A greater LIE may do less harm (its NODE is the farthest then), so each is tried.
        for (int lie = MOST_LIE; lie >= 0; lie -= LIE_STEP) {
            trial.copy(bus);
            trial.nodes[node].lie = lie;
            if (staysTogether(~bitOf(node), n, d)) {
                return lie;
            }
        }
        return NONE;
    }

    // ---- 4 images

    public int image(int k) {
        if (!isWithin(k, 0, IMAGES - 1)) {
            return OUTSIDE;
        }
        images[k].copy(bus);
        kept |= bitOf(k);
        return 1;
    }

    public int restore(int k) {
        if (!isWithin(k, 0, IMAGES - 1)) {
            return OUTSIDE;
        }
        if (!isIn(kept, k)) {
            return STATE;
        }
        bus.copy(images[k]);
        return 1;
    }

    public int count(int what) {
        switch (what) {
            case 0: return bus.cycles;
            case 1: return bus.senders;
            case 2: return bus.thatAre(ACTIVE);
            case 3: return bus.thatAre(HALTED);
            case 4: return bus.bound;
            case 5: return kept;
            default: return OUTSIDE;
        }
    }

    /** Whether the ACTIVE ones of some NODES stay so, and at most d apart, for n CYCLES of the trial. */
    private boolean staysTogether(int some, int n, int d) {
        int due = trial.thatAre(ACTIVE) & some;
        for (int i = 0; i < n; i++) {
            trial.passCycle();
            int active = trial.thatAre(ACTIVE) & some;
            if (!areAllIn(due, active) || trial.apart(active) > d) {
                return false;
            }
        }
        return true;
    }

    private static boolean isNode(int node) {
        return isWithin(node, 0, NODES - 1);
    }

    private static boolean isWithin(int number, int least, int greatest) {
        return number >= least && number <= greatest;
    }

    private static int bitOf(int n) {
        return 1 << n;
    }

    private static boolean isIn(int set, int n) {
        return (set >> n & 1) == 1;
    }

    private static boolean areAllIn(int part, int set) {
        return (part & ~set) == 0;
    }

    /** All but the IMAGES: the NODES, BOUND, the CYCLES that were, and what came of them. */
    private static final class Bus {
        final Node[] nodes = new Node[NODES];
        final Log log = new Log();
        final Numbers numbers = new Numbers();
        int bound = FIRST_BOUND;
        int cycles = 0;
        /** The set of NODES that SENT in the last CYCLE. */
        int senders = 0;

        Bus() {
            for (int n = 0; n < nodes.length; n++) {
                nodes[n] = new Node(n);
            }
        }

        void copy(Bus from) {
            for (int n = 0; n < nodes.length && n < from.nodes.length; n++) {
                nodes[n].copy(from.nodes[n]);
            }
            log.copy(from.log);
            bound = from.bound;
            cycles = from.cycles;
            senders = from.senders;
        }

        boolean isSlotOfAnother(int slot, int node) {
            for (int n = 0; n < nodes.length; n++) {
                if (n != node && nodes[n].slot == slot) {
                    return true;
                }
            }
            return false;
        }

        int thatAre(int thing) {
            int set = 0;
            for (int n = 0; n < nodes.length; n++) {
                if (nodes[n].is == thing) {
                    set |= bitOf(n);
                }
            }
            return set;
        }

        int awake() {
            int set = 0;
            for (int n = 0; n < nodes.length; n++) {
                if (nodes[n].isAwake()) {
                    set |= bitOf(n);
                }
            }
            return set;
        }

        /** The greatest AT of a set of NODES less the least one; 0, if there are fewer than two. */
        int apart(int set) {
            boolean any = false;
            int least = 0;
            int greatest = 0;
            for (int n = 0; n < nodes.length; n++) {
                if (isIn(set, n)) {
                    int at = nodes[n].at;
                    least = any ? Math.min(least, at) : at;
                    greatest = any ? Math.max(greatest, at) : at;
                    any = true;
                }
            }
            return greatest - least;
        }

        void passCycle() {
            boolean isSignGiven = isSignGiven();
            chooseSenders();
            listen();
            settle(isSignGiven);
            moveClocks();
            cycles++;
        }

        private boolean isSignGiven() {
            for (int n = 0; n < nodes.length; n++) {
                if (nodes[n].givesSign()) {
                    return true;
                }
            }
            return false;
        }

        /** Step (a). */
        private void chooseSenders() {
            int ready = 0;
            for (int n = 0; n < nodes.length; n++) {
                nodes[n].isNew = false;
                if (nodes[n].isReadyToSend()) {
                    ready |= bitOf(n);
                }
            }
            senders = ready & ~thatGiveWay(ready);
            for (int n = 0; n < nodes.length; n++) {
                if (isIn(senders, n)) {
                    nodes[n].sent++;
                } else if (isIn(ready, n)) {
                    nodes[n].become(LISTENING);
                }
            }
        }

        private int thatGiveWay(int ready) {
            int set = 0;
            for (int n = 0; n < nodes.length; n++) {
                if (isIn(ready, n) && nodes[n].isFirstTurnOfLeader() && givesWay(nodes[n], n, ready)) {
                    set |= bitOf(n);
                }
            }
            return set;
        }

        private boolean givesWay(Node node, int number, int ready) {
            for (int n = 0; n < nodes.length; n++) {
                if (n != number && isIn(ready, n)
                        && (!nodes[n].isFirstTurnOfLeader() || nodes[n].slot < node.slot)) {
                    return true;
                }
            }
            return false;
        }

        /** Step (b). */
        private void listen() {
            for (int n = 0; n < nodes.length; n++) {
                nodes[n].turnHearing();
                if (nodes[n].isAwake()) {
                    hearOthers(nodes[n], n);
                }
            }
        }

        private void hearOthers(Node node, int number) {
            for (int n = 0; n < nodes.length; n++) {
                if (n != number && isIn(senders, n)) {
                    node.last.note(n, nodes[n], node.at);
                }
            }
        }

        /** Step (c): a NODE looks at nothing but what it HEARD and SAW, so their order is no matter. */
        private void settle(boolean isSignGiven) {
            boolean isOdd = (cycles & 1) == 1;
            for (int n = 0; n < nodes.length; n++) {
                Node node = nodes[n];
                if (node.isNew) {
                    log.add(cycles, n, node.is);
                }
                int was = node.is;
                node.settle(isSignGiven);
                if (isOdd && (was == ACTIVE || was == PASSIVE)) {
                    node.correct(bound, numbers);
                }
                if (node.is != was) {
                    log.add(cycles, n, node.is);
                }
            }
        }

        /** Step (d). */
        private void moveClocks() {
            for (int n = 0; n < nodes.length; n++) {
                Node node = nodes[n];
                if (node.isAwake()) {
                    node.at += node.drift + node.rate;
                }
                if (!node.isNew) {
                    node.age++;
                }
            }
        }
    }

    private static final class Node {
        int kind;
        int slot;
        int wait = FIRST_WAIT;
        int drift = 0;
        int lie = 0;
        int is = OFF;
        /** Whether it came to be what it IS in this CYCLE. */
        boolean isNew = false;
        int age = 0;
        int quiet = 0;
        int good = 0;
        int bad = 0;
        int at = 0;
        int rate = 0;
        /** In how many CYCLES it SENT. */
        int sent = 0;
        /** Of the last CYCLE. */
        Hearing last = new Hearing();
        /** Of the CYCLE ahead of the last one. */
        Hearing ahead = new Hearing();

        Node(int number) {
            kind = number < STARTERS_AT_FIRST ? STARTER : FOLLOWER;
            slot = number + 1;
        }

        void copy(Node from) {
            kind = from.kind;
            slot = from.slot;
            wait = from.wait;
            drift = from.drift;
            lie = from.lie;
            is = from.is;
            isNew = from.isNew;
            age = from.age;
            quiet = from.quiet;
            good = from.good;
            bad = from.bad;
            at = from.at;
            rate = from.rate;
            sent = from.sent;
            last.copy(from.last);
            ahead.copy(from.ahead);
        }

        boolean isAwake() {
            return is != OFF && is != HALTED;
        }

        boolean isReadyToSend() {
            return is == LEADING && age >= 1 || is == JOINING || is == ACTIVE;
        }

        boolean isFirstTurnOfLeader() {
            return is == LEADING && age == 1;
        }

        boolean givesSign() {
            return is == LEADING && age == 0;
        }

        void become(int thing) {
            is = thing;
            isNew = true;
            age = 0;
            quiet = 0;
            good = 0;
            bad = 0;
        }

        /** What was HEARD in the last CYCLE stays: it was so then. */
        void beginAnew(int thing, int newAt) {
            become(thing);
            at = newAt;
            rate = 0;
            sent = 0;
        }

        /** What was the last CYCLE is the one ahead now; nothing is HEARD yet in the new one. */
        void turnHearing() {
            Hearing spare = ahead;
            ahead = last;
            last = spare;
            last.clear();
        }

        void settle(boolean isSignGiven) {
            switch (is) {
                case LISTENING:
                    settleListening(isSignGiven);
                    break;
                case LEADING:
                    settleLeading();
                    break;
                case JOINING:
                    settleJoining();
                    break;
                default:
                    break;
            }
        }

        /** One that is LISTENING gave no SIGN itself, so any SIGN is another one's. */
        private void settleListening(boolean isSignGiven) {
            quiet = last.heard == 0 && !isSignGiven ? quiet + 1 : 0;
            if (kind == STARTER) {
                if (last.guide != NONE && last.guide == ahead.guide) {
                    followGuide();
                    become(JOINING);
                } else if (quiet >= wait) {
                    become(LEADING);
                }
            } else if (last.starters >= ENOUGH_STARTERS && ahead.starters >= ENOUGH_STARTERS) {
                followGuide();
                become(ACTIVE);
            }
        }

        private void followGuide() {
            at += last.guideSeen;
            rate = last.guidePace - drift;
        }

        private void settleLeading() {
            if (age >= LEADER_MAY_STAY && last.starters > 0) {
                become(ACTIVE);
            } else if (age >= LEADER_GIVES_UP) {
                become(LISTENING);
            }
        }

        private void settleJoining() {
            if (last.starters == 0) {
                become(LISTENING);
            } else if (age >= JOINER_MAY_STAY) {
                become(ACTIVE);
            }
        }

        /** Only for one that was ACTIVE or PASSIVE before the CYCLE. */
        void correct(int bound, Numbers numbers) {
            int shift = last.trimOfSeen(numbers);
            if (last.heard == 0 || Math.abs(shift) > bound) {
                bad++;
                good = 0;
            } else {
                good++;
                bad = 0;
                at += shift;
                int faster = rate + last.trimOfMoves(ahead, numbers);
                rate = Math.max(-MOST_RATE, Math.min(MOST_RATE, faster));
            }
            if (is == ACTIVE && bad > 0) {
                become(PASSIVE);
            } else if (is == PASSIVE && bad >= TOO_BAD) {
                become(HALTED);
            } else if (is == PASSIVE && good >= GOOD_ENOUGH) {
                become(ACTIVE);
            }
        }
    }

    /** What a NODE HEARD and SAW in one CYCLE, as things were then. */
    private static final class Hearing {
        /** The set of NODES that it HEARD. */
        int heard = 0;
        /** How many of these were STARTERS. */
        int starters = 0;
        int guide = NONE;
        int guideSlot = 0;
        int guideSeen = 0;
        /** DRIFT and RATE of the GUIDE, added. */
        int guidePace = 0;
        /** What was SEEN of each that was HEARD; of the others it is no matter. */
        final int[] seen = new int[NODES];

        void clear() {
            heard = 0;
            starters = 0;
            guide = NONE;
        }

        void copy(Hearing from) {
            heard = from.heard;
            starters = from.starters;
            guide = from.guide;
            guideSlot = from.guideSlot;
            guideSeen = from.guideSeen;
            guidePace = from.guidePace;
            for (int n = 0; n < seen.length && n < from.seen.length; n++) {
                seen[n] = from.seen[n];
            }
        }

        void note(int number, Node other, int ownAt) {
            if (number < 0 || number >= seen.length) {
                return;
            }
            int sight = other.at + other.lie - ownAt;
            heard |= bitOf(number);
            seen[number] = sight;
            if (other.kind == STARTER) {
                starters++;
                if (guide == NONE || other.slot < guideSlot) {
                    guide = number;
                    guideSlot = other.slot;
                    guideSeen = sight;
                    guidePace = other.drift + other.rate;
                }
            }
        }

        int trimOfSeen(Numbers numbers) {
            numbers.clear();
            numbers.put(0);
            for (int n = 0; n < seen.length; n++) {
                if (isIn(heard, n)) {
                    numbers.put(seen[n]);
                }
            }
            return numbers.trimmed();
        }

        /** One that SENT in the CYCLE ahead was HEARD there by all that are ACTIVE or PASSIVE now. */
        int trimOfMoves(Hearing ahead, Numbers numbers) {
            numbers.clear();
            numbers.put(0);
            for (int n = 0; n < seen.length && n < ahead.seen.length; n++) {
                if (isIn(heard & ahead.heard, n)) {
                    numbers.put(seen[n] - ahead.seen[n]);
                }
            }
            return numbers.trimmed();
        }
    }

    /** Some numbers, the least first, of which TRIM is told. */
    private static final class Numbers {
        private final int[] row = new int[NODES];
        private int size = 0;

        void clear() {
            size = 0;
        }

        void put(int number) {
            if (size < 0 || size >= row.length) {
                return;
            }
            int place = size;
            while (place > 0 && row[place - 1] > number) {
                row[place] = row[place - 1];
                place--;
            }
            row[place] = number;
            size++;
        }

        boolean areWithin(int least, int greatest) {
            for (int i = 0; i < size && i < row.length; i++) {
                if (!isWithin(row[i], least, greatest)) {
                    return false;
                }
            }
            return true;
        }

        int trimmed() {
            int first = size >= 3 ? 1 : 0;
            int last = size - 1 - first;
            if (last < first || last >= row.length) {
                return 0;
            }
            return (row[first] + row[last]) / 2;
        }
    }

    /** The last times at which a NODE came to be something by a CYCLE, in a ring. */
    private static final class Log {
        final int[] cycles = new int[EVENTS];
        final int[] nodes = new int[EVENTS];
        final int[] things = new int[EVENTS];
        int size = 0;
        /** Where the oldest one stands. */
        private int first = 0;

        void copy(Log from) {
            for (int i = 0; i < EVENTS; i++) {
                cycles[i] = from.cycles[i];
                nodes[i] = from.nodes[i];
                things[i] = from.things[i];
            }
            size = from.size;
            first = from.first;
        }

        void add(int cycle, int node, int thing) {
            int place = (first + size) % EVENTS;
            cycles[place] = cycle;
            nodes[place] = node;
            things[place] = thing;
            if (size < EVENTS) {
                size++;
            } else {
                first = (first + 1) % EVENTS;
            }
        }

        /** Where the i-th one stands, the oldest first; -1, if there is none. */
        int placeOf(int i) {
            return i >= 0 && i < size ? (first + i) % EVENTS : -1;
        }
    }
}
