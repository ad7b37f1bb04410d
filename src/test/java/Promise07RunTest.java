/** Promise 7: run, and with it what a CYCLE is. */
final class Promise07RunTest {
    public static void main(String[] args) {
        refusals();
        manyAreManyTimesOne();
        whoSends();
        signs();
        loneLeader();
        lateJoiners();
        following();
        followers();
        startersThen();
        trimOfAll();
        onlyOddCycles();
        rateHasEnds();
        ratesByMoves();
        onlyWhoSentAhead();
        passiveComesBack();
        badAndGood();
        halted();
        Check.end();
    }

    private static void refusals() {
        SlotStart x = new SlotStart();
        x.wake(0, 0);
        Check.due("run(0)", x.run(0), SlotStart.OUTSIDE);
        Check.due("run(-1)", x.run(-1), SlotStart.OUTSIDE);
        Check.due("run(51)", x.run(51), SlotStart.OUTSIDE);
        Check.due("count(0)", x.count(0), 0);
        Check.due("run(1)", x.run(1), 0);
        Check.due("run(50)", x.run(50), 0);
        Check.due("count(0)", x.count(0), 51);
        Check.due("run(9) of six", Scenes.six().run(9), 63);
    }

    /** run(n) is n times run(1), for the least and the most. */
    private static void manyAreManyTimesOne() {
        int[] some = {1, 2, 3, 49, 50};
        for (int n : some) {
            Twins.same("run(" + n + ")", x -> {
                aScene(x);
                x.run(n);
            }, x -> {
                aScene(x);
                for (int i = 0; i < n; i++) {
                    x.run(1);
                }
            });
        }
        SlotStart x = Scenes.two();
        int[] counts = {9, 10, 60, 61};
        int[] runs = {1, 50, 1};
        for (int i = 0; i < runs.length; i++) {
            Check.due("count(0)", x.count(0), counts[i]);
            Check.due("run(" + runs[i] + ")", x.run(runs[i]), 3);
            Check.due("count(0)", x.count(0), counts[i + 1]);
        }
    }

    private static void aScene(SlotStart x) {
        x.wake(0, 0);
        x.wake(1, 70);
        x.wake(4, -7);
        x.clock(1, 0, 13);
        x.clock(4, 1, 45);
    }

    /** (a): all give way at once to the one with the least SLOT. */
    private static void whoSends() {
        SlotStart x = new SlotStart();
        x.wake(0, 0);
        x.wake(1, 0);
        x.wake(2, 0);
        int[][] due = {
            {1, 1, 1, 0}, {1, 1, 1, 0}, {2, 2, 2, 0}, {2, 2, 2, 0}, {2, 1, 1, 1}, {2, 3, 3, 1}, {4, 3, 3, 7},
            {4, 3, 3, 7}, {4, 4, 4, 7}};
        for (int cycle = 0; cycle < due.length; cycle++) {
            x.run(1);
            for (int n = 0; n < 3; n++) {
                Check.due("told(" + n + ", 0) behind CYCLE " + cycle, x.told(n, 0), due[cycle][n]);
            }
            Check.due("count(1) behind CYCLE " + cycle, x.count(1), due[cycle][3]);
        }
    }

    /** NODE 1 would lead behind CYCLE 3, but for the SIGN of NODE 0 in it. */
    private static void signs() {
        SlotStart x = new SlotStart();
        x.node(1, 1, 2, 4);
        x.wake(0, 0);
        x.wake(1, 0);
        x.run(3);
        Check.due("QUIET ahead of the SIGN", x.told(1, 2), 3);
        x.run(1);
        Check.due("QUIET behind the SIGN", x.told(1, 2), 0);
        Check.due("told(1, 0) behind the SIGN", x.told(1, 0), 1);
        Check.due("one that gives a SIGN does not SEND", x.count(1), 0);
        x.run(1);
        Check.due("QUIET of one that HEARD another", x.told(1, 2), 0);
    }

    private static void loneLeader() {
        SlotStart x = new SlotStart();
        x.wake(2, 0);
        x.run(10);
        Check.due("told(2, 0) behind CYCLE 9", x.told(2, 0), 2);
        Check.due("told(2, 1) behind CYCLE 9", x.told(2, 1), 7);
        x.run(1);
        Check.due("told(2, 0) behind CYCLE 10", x.told(2, 0), 1);
        Check.due("told(2, 1) behind CYCLE 10", x.told(2, 1), 0);
        x.run(2);
        Check.due("told(2, 0) behind CYCLE 12", x.told(2, 0), 1);
        x.run(1);
        Check.due("told(2, 0) behind CYCLE 13", x.told(2, 0), 2);
    }

    /** NODE 0 leads behind CYCLE 2 and gives up in CYCLE 10, unless it HEARS another STARTER in it. */
    private static void lateJoiners() {
        SlotStart x = new SlotStart();
        x.wake(0, 0);
        x.run(8);
        x.wake(1, 0);
        x.run(2);
        Check.due("told(1, 0) behind CYCLE 9", x.told(1, 0), 3);
        Check.due("told(0, 0) behind CYCLE 9", x.told(0, 0), 2);
        Check.due("run(1), CYCLE 10", x.run(1), 1);
        Check.due("run(1), CYCLE 11", x.run(1), 1);
        Check.due("run(1), CYCLE 12", x.run(1), 3);
        SlotStart y = new SlotStart();
        y.wake(0, 0);
        y.run(9);
        y.wake(1, 0);
        y.run(2);
        Check.due("told(0, 0) behind CYCLE 10", y.told(0, 0), 1);
        Check.due("told(1, 0) behind CYCLE 10", y.told(1, 0), 3);
        y.run(1);
        Check.due("a JOINING one that HEARD no STARTER", y.told(1, 0), 1);
        Check.due("QUIET of one that HEARD it", y.told(0, 2), 0);
        Check.due("a GUIDE for one CYCLE is not enough", y.told(0, 0), 1);
    }

    private static void following() {
        SlotStart x = new SlotStart();
        x.node(1, 1, 2, 9);
        x.clock(0, 0, 10);
        x.clock(0, 1, 7);
        x.clock(1, 0, -5);
        x.wake(0, 0);
        x.wake(1, 30);
        x.run(5);
        Check.due("AT ahead", x.told(1, 5), 100005);
        x.run(1);
        Check.due("told(1, 0)", x.told(1, 0), 3);
        Check.due("seen(1, 0)", x.seen(1, 0), 100000 + 50 + 7 - 5);
        Check.due("RATE of one that FOLLOWS", x.told(1, 6), 1015);
        Check.due("AT of one that FOLLOWS", x.told(1, 5), 100067);
        Check.due("AT of the GUIDE", x.told(0, 5), 100060);
    }

    /** A FOLLOWER needs two STARTERS in two CYCLES; of another FOLLOWER it takes no notice. */
    private static void followers() {
        SlotStart x = new SlotStart();
        x.wake(0, 0);
        x.wake(1, 0);
        x.wake(5, 400);
        x.run(7);
        Check.due("told(5, 0) behind CYCLE 6", x.told(5, 0), 1);
        Check.due("told(5, 9) behind CYCLE 6", x.told(5, 9), 2);
        x.run(1);
        Check.due("told(5, 0) behind CYCLE 7", x.told(5, 0), 4);
        Check.due("told(5, 5) behind CYCLE 7", x.told(5, 5), 100000);
        SlotStart y = Scenes.three();
        y.off(1);
        y.wake(4, 0);
        y.run(1);
        Check.due("it HEARD a STARTER and a FOLLOWER", y.told(4, 9), 2);
        Check.due("it HEARD a STARTER and a FOLLOWER", y.told(4, 8), 0);
        y.run(5);
        Check.due("one STARTER is not enough", y.told(4, 0), 1);
        SlotStart z = Scenes.three();
        z.node(2, 1, 3, 9);
        z.wake(2, 0);
        z.wake(4, 0);
        z.run(1);
        z.off(1);
        z.run(1);
        Check.due("two STARTERS in one CYCLE only", z.told(4, 0), 1);
    }

    /** Who was a STARTER in the CYCLE ahead counts as one there, whatever its KIND is since. */
    private static void startersThen() {
        SlotStart x = Scenes.three();
        x.wake(2, 0);
        x.run(1);
        x.wake(4, 0);
        x.run(1);
        x.off(1);
        x.node(1, 2, 2, 3);
        Check.due("told(4, 0) behind CYCLE 10", x.told(4, 0), 1);
        x.run(1);
        Check.due("it HEARD 0 and 1, then 0 and 2", x.told(4, 0), 4);
        SlotStart y = new SlotStart();
        y.wake(0, 0);
        y.wake(1, 0);
        y.wake(3, 0);
        y.run(8);
        y.wake(2, 0);
        y.run(1);
        y.off(1);
        y.wake(4, 0);
        y.run(1);
        Check.due("told(4, 9) behind CYCLE 9", y.told(4, 9), 2);
        y.off(3);
        y.node(3, 1, 4, 3);
        y.run(1);
        Check.due("it HEARD 0 and a FOLLOWER, then 0 and 2", y.told(4, 0), 1);
        y.run(1);
        Check.due("it HEARD 0 and 2 twice", y.told(4, 0), 4);
    }

    /** NODE 0 is ACTIVE in CYCLE 7 already, the others are not. */
    private static void trimOfAll() {
        SlotStart x = Scenes.six();
        x.clock(0, 1, 100);
        x.clock(1, 1, -60);
        x.clock(2, 1, 100);
        Check.due("run(1)", x.run(1), 63);
        int[] rates = {1000, 1050, 1000, 1050, 1050, 1050};
        for (int n = 0; n < 6; n++) {
            Check.due("told(" + n + ", 6)", x.told(n, 6), rates[n]);
            Check.due("told(" + n + ", 5)", x.told(n, 5), 100000 + 2 * (rates[n] - 1000));
            Check.due("told(" + n + ", 3)", x.told(n, 3), n == 0 ? 2 : 1);
        }
    }

    private static void onlyOddCycles() {
        SlotStart x = Scenes.two();
        x.run(1);
        Check.due("GOOD behind CYCLE 9", x.told(1, 3), 1);
        x.clock(0, 1, 101);
        x.run(1);
        Check.due("GOOD behind CYCLE 10", x.told(1, 3), 1);
        Check.due("AT behind CYCLE 10", x.told(1, 5), 100000);
        x.run(1);
        Check.due("GOOD behind CYCLE 11", x.told(1, 3), 2);
        Check.due("AT behind CYCLE 11", x.told(1, 5), 100050);
        Check.due("RATE behind CYCLE 11", x.told(1, 6), 1000);
    }

    private static void rateHasEnds() {
        for (int sign = -1; sign <= 1; sign += 2) {
            SlotStart x = Scenes.two();
            x.bound(500);
            x.run(2);
            x.clock(1, 1, sign * 400);
            x.run(1);
            Check.due("RATE behind CYCLE 11", x.told(0, 6), 1000 + sign * 100);
            Check.due("AT behind CYCLE 11", x.told(0, 5), 100000 + sign * 300);
        }
    }

    /** NODE 1 is 40 ticks a CYCLE too slow: they meet half way. */
    private static void ratesByMoves() {
        SlotStart x = Scenes.two();
        x.clock(1, 0, 40);
        x.run(2);
        Check.due("AT behind CYCLE 10", x.told(1, 5), 100080);
        x.run(1);
        Check.due("told(0, 6)", x.told(0, 6), 1020);
        Check.due("told(1, 6)", x.told(1, 6), 980);
        Check.due("told(0, 5)", x.told(0, 5), 100060);
        Check.due("told(1, 5)", x.told(1, 5), 100060);
        x.wake(2, 0);
        x.run(1);
        Check.due("told(0, 5)", x.told(0, 5), 100080);
        Check.due("told(1, 5)", x.told(1, 5), 100080);
        x.run(1);
        Check.due("told(2, 0)", x.told(2, 0), 3);
        Check.due("RATE of one that FOLLOWS a RATE", x.told(2, 6), 1020);
        Check.due("AT of one that FOLLOWS a RATE", x.told(2, 5), 100100);
        Check.due("AT of its GUIDE", x.told(0, 5), 100100);
    }

    /** NODE 2 SENDS in CYCLE 11 first, NODE 1 in CYCLE 10 last: for RATE both are no matter in CYCLE 11. */
    private static void onlyWhoSentAhead() {
        SlotStart x = Scenes.two();
        x.clock(2, 1, 100);
        x.wake(2, 0);
        x.run(1);
        x.clock(1, 1, -50);
        x.run(1);
        Check.due("told(2, 0) behind CYCLE 10", x.told(2, 0), 3);
        x.off(1);
        x.run(1);
        Check.due("seen(0, 2)", x.seen(0, 2), 100100);
        Check.due("AT behind CYCLE 11", x.told(0, 5), 100050);
        Check.due("RATE behind CYCLE 11", x.told(0, 6), 1000);
        x.run(1);
        x.clock(2, 1, 110);
        x.run(1);
        Check.due("AT behind CYCLE 13", x.told(0, 5), 100085);
        Check.due("RATE behind CYCLE 13", x.told(0, 6), 1005);
    }

    private static void passiveComesBack() {
        SlotStart x = Scenes.onePassive();
        x.clock(3, 0, 0);
        x.bound(500);
        Check.due("told(3, 0)", x.told(3, 0), 5);
        Check.due("told(3, 4)", x.told(3, 4), 0);
        Check.due("told(3, 5)", x.told(3, 5), 100150);
        Check.due("run(1), CYCLE 12", x.run(1), 3);
        Check.due("a PASSIVE one does not SEND", x.count(1), 3);
        x.run(1);
        Check.due("told(3, 3)", x.told(3, 3), 1);
        Check.due("told(3, 5)", x.told(3, 5), 100000);
        Check.due("seen(3, 0)", x.seen(3, 0), 99850);
        Check.due("run(1), CYCLE 14", x.run(1), 3);
        Check.due("run(1), CYCLE 15", x.run(1), 11);
        Check.due("count(1)", x.count(1), 3);
        Check.due("told(3, 3)", x.told(3, 3), 0);
        x.run(1);
        Check.due("count(1)", x.count(1), 11);
    }

    private static void badAndGood() {
        SlotStart x = Scenes.onePassive();
        x.run(4);
        Check.due("BAD behind CYCLE 15", x.told(3, 4), 2);
        x.bound(500);
        x.run(2);
        Check.due("BAD behind CYCLE 17", x.told(3, 4), 0);
        Check.due("GOOD behind CYCLE 17", x.told(3, 3), 1);
        x.bound(0);
        x.clock(3, 0, 40);
        x.run(2);
        Check.due("BAD behind CYCLE 19", x.told(3, 4), 1);
        Check.due("GOOD behind CYCLE 19", x.told(3, 3), 0);
        x.run(3);
        Check.due("told(3, 0) behind CYCLE 22", x.told(3, 0), 5);
        x.run(1);
        Check.due("told(3, 0) behind CYCLE 23", x.told(3, 0), 6);
        Check.due("the others go on", x.count(2), 3);
    }

    /** Its clock stands as soon as it IS HALTED, and it HEARS nobody. */
    private static void halted() {
        SlotStart x = Scenes.two();
        x.bound(0);
        x.clock(1, 0, 40);
        x.run(8);
        Check.due("AT behind CYCLE 16", x.told(1, 5), 100320);
        Check.due("count(3) behind CYCLE 16", x.count(3), 0);
        x.run(1);
        Check.due("AT behind CYCLE 17", x.told(1, 5), 100320);
        Check.due("count(3) behind CYCLE 17", x.count(3), 3);
        x.wake(2, 0);
        x.run(5);
        Check.due("AT behind CYCLE 22", x.told(1, 5), 100320);
        Check.due("AGE behind CYCLE 22", x.told(1, 1), 5);
        Check.due("count(1)", x.count(1), 4);
        Check.due("told(1, 9)", x.told(1, 9), 0);
    }
}
