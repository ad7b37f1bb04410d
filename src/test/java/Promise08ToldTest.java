/** Promise 8: told. */
final class Promise08ToldTest {
    public static void main(String[] args) {
        SlotStart x = new SlotStart();
        Check.due("told(-1, 0)", x.told(-1, 0), SlotStart.UNKNOWN);
        Check.due("told(6, 10)", x.told(6, 10), SlotStart.UNKNOWN);
        Check.due("told(0, -1)", x.told(0, -1), SlotStart.OUTSIDE);
        Check.due("told(0, 10)", x.told(0, 10), SlotStart.OUTSIDE);
        agesAndCounts();
        guides();
        sent();
        noCycle();
        Check.end();
    }

    private static void all(SlotStart x, int node, int... due) {
        for (int what = 0; what < due.length; what++) {
            Check.due("told(" + node + ", " + what + ") behind " + x.count(0), x.told(node, what), due[what]);
        }
    }

    private static void agesAndCounts() {
        SlotStart x = new SlotStart();
        x.clock(0, 0, -4);
        x.wake(0, 1);
        x.wake(1, 0);
        x.wake(3, -9);
        int none = SlotStart.NONE;
        x.run(2);
        all(x, 0, 1, 2, 2, 0, 0, 99993, 1000, 0, none, 0);
        all(x, 3, 1, 2, 2, 0, 0, 99991, 1000, 0, none, 0);
        all(x, 5, 0, 2, 0, 0, 0, 100000, 1000, 0, none, 0);
        x.run(3);
        all(x, 0, 2, 2, 0, 0, 0, 99981, 1000, 1, none, 0);
        all(x, 1, 1, 0, 0, 0, 0, 100000, 1000, 0, 0, 1);
        all(x, 3, 1, 5, 0, 0, 0, 99991, 1000, 0, 0, 1);
        x.run(1);
        all(x, 0, 2, 3, 0, 0, 0, 99977, 1000, 2, none, 0);
        all(x, 1, 3, 0, 0, 0, 0, 99977, 996, 0, 0, 1);
        x.run(2);
        all(x, 0, 4, 1, 0, 1, 0, 99969, 1000, 4, 1, 1);
        all(x, 1, 3, 2, 0, 0, 0, 99969, 996, 2, 0, 1);
        all(x, 3, 4, 0, 0, 0, 0, 99969, 996, 0, 0, 2);
        x.run(2);
        all(x, 0, 4, 3, 0, 2, 0, 99961, 1000, 6, 1, 2);
        all(x, 1, 4, 1, 0, 1, 0, 99961, 996, 4, 0, 2);
        all(x, 3, 4, 2, 0, 1, 0, 99961, 996, 2, 0, 2);
        x.off(3);
        x.wake(3, 0);
        Check.due("told(3, 7) of one that was woken anew", x.told(3, 7), 0);
    }

    /** NODE 3 SENT in CYCLES 8 to 11, then it is PASSIVE, and HALTED by CYCLE 17. */
    private static void sent() {
        SlotStart x = Scenes.onePassive();
        Check.due("SENT by a PASSIVE one", x.told(3, 7), 4);
        x.run(6);
        Check.due("SENT by a HALTED one", x.told(3, 7), 4);
        x.wake(3, 0);
        Check.due("SENT by one that is woken", x.told(3, 7), 0);
        SlotStart y = Scenes.two();
        Check.due("SENT by 0, from CYCLE 4 on", y.told(0, 7), 5);
        Check.due("SENT by 1, from CYCLE 6 on", y.told(1, 7), 3);
        y.run(50);
        Check.due("SENT by 0, 50 more", y.told(0, 7), 55);
        y.off(0);
        Check.due("SENT by one that is OFF", y.told(0, 7), 0);
        y.run(3);
        Check.due("SENT by one that is OFF, later", y.told(0, 7), 0);
        y.wake(0, 0);
        Check.due("SENT by one that is woken", y.told(0, 7), 0);
    }

    /** No CYCLE, and none in which there was a GUIDE. */
    private static void noCycle() {
        SlotStart x = new SlotStart();
        x.wake(0, 0);
        x.wake(3, 0);
        for (int i = 0; i < 4; i++) {
            for (int n = 0; n < 6; n++) {
                Check.due("GUIDE of " + n + " behind " + i, x.told(n, 8), SlotStart.NONE);
                Check.due("HEARD by " + n + " behind " + i, x.told(n, 9), 0);
            }
            x.run(1);
        }
        x.run(1);
        Check.due("GUIDE behind 5", x.told(3, 8), 0);
        x.off(0);
        x.run(1);
        Check.due("GUIDE of the last CYCLE alone", x.told(3, 8), SlotStart.NONE);
        Check.due("HEARD in the last CYCLE alone", x.told(3, 9), 0);
    }

    /** The GUIDE has the least SLOT, not the least number, and is a STARTER. */
    private static void guides() {
        SlotStart x = new SlotStart();
        x.node(0, 2, 9, 3);
        x.node(5, 1, 1, 3);
        for (int n = 0; n < 6; n++) {
            x.wake(n, 0);
        }
        x.run(11);
        Check.due("count(2)", x.count(2), 63);
        for (int n = 0; n < 5; n++) {
            Check.due("told(" + n + ", 8)", x.told(n, 8), 5);
            Check.due("told(" + n + ", 9)", x.told(n, 9), 5);
        }
        Check.due("told(5, 8)", x.told(5, 8), 1);
    }
}
