/** Terms: which refusal is answered if several fit, and that what is refused changes nothing. */
final class RefusedTest {
    private static final int U = SlotStart.UNKNOWN, O = SlotStart.OUTSIDE, S = SlotStart.STATE;
    private static final int LEAST = Integer.MIN_VALUE, MOST = Integer.MAX_VALUE;
    private static final int[] NO_NODES = {-1, 6, LEAST, MOST};

    public static void main(String[] args) {
        unknownIsFirst();
        outsideIsAheadOfState();
        nothingChanges("a new object", x -> { });
        nothingChanges("NODES that are LISTENING, OFF", RefusedTest::listening);
        nothingChanges("NODES that are LEADING, JOINING, LISTENING", RefusedTest::joining);
        nothingChanges("NODES that are ACTIVE, PASSIVE, OFF", RefusedTest::passive);
        nothingChanges("NODES that are ACTIVE, HALTED, OFF", RefusedTest::halted);
        nothingChanges("two IMAGES", RefusedTest::images);
        askingChangesNothing("NODES that are LEADING, JOINING, LISTENING", RefusedTest::joining);
        askingChangesNothing("NODES that are ACTIVE, PASSIVE, OFF", RefusedTest::passive);
        askingChangesNothing("two IMAGES", RefusedTest::images);
        Check.end();
    }

    /** All else is wrong, too, wherever it can be. */
    private static void unknownIsFirst() {
        SlotStart x = Scenes.two();
        for (int node : NO_NODES) {
            Check.due("node(" + node + ", 0, 0, 0)", x.node(node, 0, 0, 0), U);
            Check.due("node(" + node + ", 1, 2, 3)", x.node(node, 1, 2, 3), U);
            Check.due("clock(" + node + ", 2, 401)", x.clock(node, 2, 401), U);
            Check.due("clock(" + node + ", 0, 0)", x.clock(node, 0, 0), U);
            Check.due("wake(" + node + ", 501)", x.wake(node, 501), U);
            Check.due("wake(" + node + ", 0)", x.wake(node, 0), U);
            Check.due("off(" + node + ")", x.off(node), U);
            Check.due("told(" + node + ", 10)", x.told(node, 10), U);
            Check.due("told(" + node + ", 0)", x.told(node, 0), U);
            Check.due("seen(" + node + ", " + node + ")", x.seen(node, node), U);
            Check.due("seen(" + node + ", 0)", x.seen(node, 0), U);
            Check.due("seen(0, " + node + ")", x.seen(0, node), U);
            Check.due("bears(" + node + ", 0, -1)", x.bears(node, 0, -1), U);
            Check.due("bears(" + node + ", 1, 0)", x.bears(node, 1, 0), U);
        }
    }

    /** NODE 0 is not OFF, NODE 1 has the SLOT 2, nothing was kept. */
    private static void outsideIsAheadOfState() {
        SlotStart x = Scenes.two();
        Check.due("node(0, 0, 1, 3)", x.node(0, 0, 1, 3), O);
        Check.due("node(0, 1, 0, 3)", x.node(0, 1, 0, 3), O);
        Check.due("node(0, 1, 1, 0)", x.node(0, 1, 1, 0), O);
        Check.due("node(0, 1, 2, 10)", x.node(0, 1, 2, 10), O);
        Check.due("node(5, 3, 2, 3)", x.node(5, 3, 2, 3), O);
        Check.due("node(5, 1, 2, 10)", x.node(5, 1, 2, 10), O);
        Check.due("node(0, 1, 1, 3)", x.node(0, 1, 1, 3), S);
        Check.due("node(5, 1, 2, 3)", x.node(5, 1, 2, 3), S);
        Check.due("wake(0, 501)", x.wake(0, 501), O);
        Check.due("wake(0, -501)", x.wake(0, -501), O);
        Check.due("wake(0, 500)", x.wake(0, 500), S);
        Check.due("restore(-1)", x.restore(-1), O);
        Check.due("restore(2)", x.restore(2), O);
        Check.due("restore(1)", x.restore(1), S);
    }

    private static void nothingChanges(String where, Twins.Story story) {
        Twins.same("refused calls, " + where, story, x -> {
            story.tell(x);
            refusedByNumbers(x);
            refusedByState(x);
        });
    }

    private static void askingChangesNothing(String where, Twins.Story story) {
        Twins.same("calls that ask, " + where, story, x -> {
            story.tell(x);
            ask(x);
        });
    }

    private static void ask(SlotStart x) {
        for (int n = 0; n < 6; n++) {
            x.told(n, n);
            x.seen(n, 5 - n);
            x.bears(n, 7, 30);
            x.count(n);
        }
        x.trim(4, 1, 2, 3, 4);
        x.event(0, 1);
        x.event(-1, 1);
        x.spread();
        x.soon();
    }

    private static void refusedByNumbers(SlotStart x) {
        for (int n : NO_NODES) {
            x.node(n, 2, 9, 9);
            x.clock(n, 0, 50);
            x.wake(n, 500);
            x.off(n);
            x.told(n, 0);
            x.seen(n, 0);
            x.bears(n, 1, 0);
        }
        int[] wrong = {LEAST, -501, 501, MOST};
        for (int v : wrong) {
            for (int n = 0; n < 6; n++) {
                Check.due("wake(" + n + ", " + v + ")", x.wake(n, v), O);
                Check.due("clock(" + n + ", 0, " + v + ")", x.clock(n, 0, v), O);
                Check.due("clock(" + n + ", 1, " + v + ")", x.clock(n, 1, v), O);
            }
            Check.due("clock(0, " + v + ", 0)", x.clock(0, v, 0), O);
            Check.due("node(5, " + v + ", 9, 9)", x.node(5, v, 9, 9), O);
            Check.due("node(5, 1, " + v + ", 9)", x.node(5, 1, v, 9), O);
            Check.due("node(5, 1, 9, " + v + ")", x.node(5, 1, 9, v), O);
            Check.due("bound(" + v + ")", x.bound(v), O);
            Check.due("run(" + v + ")", x.run(v), O);
            Check.due("told(0, " + v + ")", x.told(0, v), O);
            Check.due("trim(" + v + ", 0, 0, 0, 0)", x.trim(v, 0, 0, 0, 0), O);
            Check.due("event(0, " + v + ")", x.event(0, v), O);
            Check.due("bears(0, " + v + ", 0)", x.bears(0, v, 0), O);
            Check.due("image(" + v + ")", x.image(v), O);
            Check.due("restore(" + v + ")", x.restore(v), O);
            Check.due("count(" + v + ")", x.count(v), O);
        }
        Check.due("bears(0, 1, 1000)", x.bears(0, 1, 1000), O);
        Check.due("seen(3, 3)", x.seen(3, 3), O);
    }

    /** Only what is refused in the state of x is tried: each SLOT of another, each NODE that may not be woken. */
    private static void refusedByState(SlotStart x) {
        for (int n = 0; n < 6; n++) {
            int is = x.told(n, 0);
            if (is != 0) {
                Check.due("node(" + n + ", 2, 9, 9)", x.node(n, 2, 9, 9), S);
            }
            if (is != 0 && is != 6) {
                Check.due("wake(" + n + ", 77)", x.wake(n, 77), S);
            }
        }
        Check.due("node(5, 1, 1, 9)", x.node(5, 1, 1, 9), S);
        for (int k = 0; k < 2; k++) {
            if ((x.count(5) >> k & 1) == 0) {
                Check.due("restore(" + k + ")", x.restore(k), S);
            }
        }
    }

    private static void listening(SlotStart x) {
        x.node(1, 2, 8, 7);
        x.clock(0, 0, -7);
        x.clock(4, 1, 30);
        x.wake(0, 10);
        x.wake(1, -10);
        x.wake(3, 0);
        x.run(2);
    }

    private static void joining(SlotStart x) {
        x.clock(0, 0, 3);
        x.wake(0, 0);
        x.wake(1, 50);
        x.wake(3, 5);
        x.run(6);
        x.image(1);
    }

    private static void passive(SlotStart x) {
        x.wake(0, 0);
        x.wake(1, 0);
        x.wake(3, 0);
        x.run(9);
        x.bound(20);
        x.clock(3, 0, 50);
        x.run(5);
    }

    private static void halted(SlotStart x) {
        passive(x);
        x.run(4);
    }

    private static void images(SlotStart x) {
        listening(x);
        x.image(0);
        x.run(6);
        x.clock(1, 1, -44);
        x.image(1);
        x.wake(2, 8);
        x.run(1);
    }
}
