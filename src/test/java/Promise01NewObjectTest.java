/** Promise 1: what a new object is. */
final class Promise01NewObjectTest {
    public static void main(String[] args) {
        allIsAtFirst();
        kindsAndWaits();
        objectsAreApart();
        Check.end();
    }

    private static void allIsAtFirst() {
        SlotStart x = new SlotStart();
        int[] first = {0, 0, 0, 0, 0, 100000, 1000, 0, SlotStart.NONE, 0};
        for (int n = 0; n < 6; n++) {
            for (int what = 0; what < first.length; what++) {
                Check.due("told(" + n + ", " + what + ")", x.told(n, what), first[what]);
            }
            for (int other = 0; other < 6; other++) {
                if (other != n) {
                    Check.due("seen(" + n + ", " + other + ")", x.seen(n, other), SlotStart.NONE);
                }
            }
        }
        int[] counts = {0, 0, 0, 0, 100, 0};
        for (int what = 0; what < counts.length; what++) {
            Check.due("count(" + what + ")", x.count(what), counts[what]);
        }
        Check.due("event(-1, 0)", x.event(-1, 0), 0);
        Check.due("event(0, 0)", x.event(0, 0), SlotStart.NONE);
        Check.due("spread()", x.spread(), 0);
        Check.due("soon()", x.soon(), SlotStart.NONE);
        Check.due("restore(0)", x.restore(0), SlotStart.STATE);
        Check.due("restore(1)", x.restore(1), SlotStart.STATE);
        for (int n = 0; n < 6; n++) {
            Check.due("clock(" + n + ", 0, 1)", x.clock(n, 0, 1), 1000);
            Check.due("clock(" + n + ", 1, 1)", x.clock(n, 1, 1), 1000);
            Check.due("node(" + n + ", 1, " + (n + 1) + ", 1)", x.node(n, 1, n + 1, 1), n + 1);
        }
    }

    /** NODES 0, 1, 2 lead behind a WAIT of 3 CYCLES; 3, 4, 5 never do. */
    private static void kindsAndWaits() {
        for (int n = 0; n < 6; n++) {
            SlotStart x = new SlotStart();
            x.wake(n, 0);
            x.run(2);
            Check.due("told(" + n + ", 0) behind 2", x.told(n, 0), 1);
            x.run(1);
            Check.due("told(" + n + ", 0) behind 3", x.told(n, 0), n < 3 ? 2 : 1);
        }
    }

    private static void objectsAreApart() {
        SlotStart x = new SlotStart();
        SlotStart y = new SlotStart();
        x.wake(0, 5);
        x.run(4);
        x.image(0);
        x.bound(7);
        Check.due("told(0, 0) of another object", y.told(0, 0), 0);
        Check.due("count(0) of another object", y.count(0), 0);
        Check.due("count(4) of another object", y.count(4), 100);
        Check.due("count(5) of another object", y.count(5), 0);
    }
}
