/** Promise 12: spread. */
final class Promise12SpreadTest {
    public static void main(String[] args) {
        fewerThanTwo();
        twoAndThree();
        allSix();
        onlyActiveOnes();
        farApart();
        Check.end();
    }

    private static void fewerThanTwo() {
        SlotStart x = new SlotStart();
        Check.due("spread() of none", x.spread(), 0);
        x.wake(0, 500);
        x.wake(1, -500);
        x.wake(3, 77);
        Check.due("spread() of LISTENING ones", x.spread(), 0);
        x.run(7);
        Check.due("count(2)", x.count(2), 1);
        Check.due("AT of one that is ACTIVE alone", x.told(0, 5), 100500);
        Check.due("spread() of one", x.spread(), 0);
    }

    private static void twoAndThree() {
        SlotStart y = Scenes.three();
        y.bound(500);
        y.clock(0, 0, -30);
        y.clock(1, 0, 20);
        y.clock(3, 0, 50);
        y.run(1);
        Check.due("spread() behind CYCLE 9", y.spread(), 80);
        y.run(1);
        Check.due("spread() behind CYCLE 10", y.spread(), 160);
        y.off(0);
        Check.due("spread() of 1 and 3", y.spread(), 60);
        y.off(3);
        Check.due("spread() of 1", y.spread(), 0);
        y.off(1);
        Check.due("spread() of none", y.spread(), 0);
    }

    /** Both ends below 0, both above, and one of each: which NODES they are is no matter. */
    private static void allSix() {
        int[][] drifts = {{-9, -8, -7, -6, -5, -50}, {3, 50, 4, 5, 6, 7}, {-50, 0, 0, 0, 0, 50}, {0, 0, 1, 0, 0, 0}};
        int[] due = {45, 47, 100, 1};
        for (int i = 0; i < drifts.length; i++) {
            SlotStart x = Scenes.six();
            Check.due("spread() of six at 0", x.spread(), 0);
            for (int n = 0; n < 6; n++) {
                x.clock(n, 0, drifts[i][n]);
            }
            x.run(1);
            Check.due("spread() of six, " + i, x.spread(), due[i]);
        }
    }

    private static void onlyActiveOnes() {
        SlotStart z = Scenes.onePassive();
        Check.due("spread() without a PASSIVE one", z.spread(), 0);
        z.wake(2, 400);
        Check.due("spread() without a LISTENING one", z.spread(), 0);
        z.run(6);
        Check.due("told(3, 0)", z.told(3, 0), 6);
        z.wake(4, 44);
        Check.due("spread() without a HALTED one", z.spread(), 0);
        SlotStart y = new SlotStart();
        y.wake(0, 0);
        y.wake(1, 0);
        y.run(7);
        y.clock(1, 0, 9);
        y.run(1);
        Check.due("told(1, 0)", y.told(1, 0), 3);
        Check.due("spread() without a JOINING one", y.spread(), 0);
        y.run(1);
        Check.due("spread() with it, ACTIVE now", y.spread(), Math.abs(y.told(0, 5) - y.told(1, 5)));
        Check.due("told(0, 5) and told(1, 5) differ", y.told(0, 5) == y.told(1, 5) ? 1 : 0, 0);
    }

    private static void farApart() {
        SlotStart x = Scenes.goingApart(400, 400);
        x.run(1);
        Check.due("spread() behind CYCLE 11", x.spread(), 700);
        Check.due("run(1)", x.run(1), 3);
        Check.due("spread() behind CYCLE 12", x.spread(), 1000);
        Check.due("run(1)", x.run(1), 3);
        Check.due("spread() behind CYCLE 13: half of the lies again", x.spread(), 400);
    }
}
