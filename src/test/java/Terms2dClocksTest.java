/** Terms 2, step (d): whose clock moves, by how much, and whose AGE is more. */
final class Terms2dClocksTest {
    public static void main(String[] args) {
        allThatAreAwakeMove();
        offAndHaltedOnesStand();
        driftAtItsEnds();
        rateAsItIsThen();
        agesOfAll();
        Check.end();
    }

    /** NODE 0 LISTENING (CYCLES 0 to 2), LEADING (3 to 6), ACTIVE; NODE 1 JOINING (6 to 8). */
    private static void allThatAreAwakeMove() {
        SlotStart x = new SlotStart();
        x.clock(0, 0, 7);
        x.clock(1, 0, 7);
        x.wake(0, 0);
        x.wake(1, 0);
        for (int behind = 1; behind <= 12; behind++) {
            x.run(1);
            Check.due("AT of 0 behind " + behind, x.told(0, 5), 100000 + 7 * behind);
            Check.due("AT of 1 behind " + behind, x.told(1, 5), 100000 + 7 * behind);
        }
        SlotStart y = Scenes.onePassive();
        y.run(1);
        Check.due("AT of a PASSIVE one", y.told(3, 5), 100200);
    }

    private static void offAndHaltedOnesStand() {
        SlotStart x = new SlotStart();
        x.clock(4, 0, 50);
        x.run(3);
        Check.due("AT of one that is OFF", x.told(4, 5), 100000);
        SlotStart y = Scenes.onePassive();
        y.run(5);
        int ahead = y.told(3, 5);
        y.run(1);
        Check.due("told(3, 0)", y.told(3, 0), 6);
        Check.due("AT in the CYCLE in which it came to be HALTED", y.told(3, 5), ahead);
        y.run(3);
        Check.due("AT of a HALTED one", y.told(3, 5), ahead);
    }

    private static void driftAtItsEnds() {
        for (int drift = -50; drift <= 50; drift += 50) {
            SlotStart x = new SlotStart();
            x.clock(5, 0, drift);
            x.wake(5, 500);
            x.run(50);
            Check.due("AT with DRIFT " + drift, x.told(5, 5), 100500 + 50 * drift);
        }
    }

    /** NODE 0 corrects itself in CYCLE 11: its new RATE of 20 counts in that CYCLE already. */
    private static void rateAsItIsThen() {
        SlotStart x = Scenes.two();
        x.run(2);
        x.clock(1, 1, 40);
        x.clock(0, 0, -3);
        x.run(1);
        Check.due("TRIM 20, DRIFT -3, RATE 20", x.told(0, 5), 100037);
        x.clock(1, 1, 0);
        x.run(1);
        Check.due("DRIFT -3, RATE 20", x.told(0, 5), 100054);
    }

    private static void agesOfAll() {
        SlotStart x = Scenes.onePassive();
        int[] ages = {5, 3, 12, 0, 12, 12};
        for (int n = 0; n < 6; n++) {
            Check.due("AGE of " + n, x.told(n, 1), ages[n]);
        }
        x.run(1);
        for (int n = 0; n < 6; n++) {
            Check.due("AGE of " + n + " behind one more", x.told(n, 1), ages[n] + 1);
        }
        x.run(6);
        Check.due("AGE of one that is HALTED since CYCLE 17", x.told(3, 1), 1);
    }
}
