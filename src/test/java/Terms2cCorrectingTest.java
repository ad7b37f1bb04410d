/** Terms 2, step (c), ACTIVE and PASSIVE: TRIM, BOUND, GOOD and BAD, RATE, and what comes of them. */
final class Terms2cCorrectingTest {
    public static void main(String[] args) {
        evenCyclesCorrectNothing();
        notInTheCycleInWhichItCameToBeSo();
        boundOfNothing();
        boundOfMost();
        nobodyIsBad();
        cutTowardsZero();
        trimOfTwoToSix();
        rateAtItsEnds();
        rateOfThoseThatSentAhead();
        rateByTheMiddleOfMoves();
        activeFallsSilentAtOnce();
        passiveWithBads();
        passiveWithGoods();
        goodAndBadEndOneAnother();
        goodHasNoEnd();
        Check.end();
    }

    /** The LIE is told in CYCLE 10 alone: nobody takes notice of it. */
    private static void evenCyclesCorrectNothing() {
        SlotStart x = Scenes.two();
        x.run(1);
        x.clock(1, 1, 400);
        x.run(1);
        Check.due("SEEN in CYCLE 10", x.seen(0, 1), 100400);
        Check.due("ACTIVE", x.told(0, 0), 4);
        Check.due("GOOD", x.told(0, 3), 2);
        Check.due("AT", x.told(0, 5), 100000);
        Check.due("RATE", x.told(0, 6), 1000);
    }

    /**
     * CYCLE 7 is odd, NODE 3 comes to be ACTIVE in it and NODE 0 was so before. NODES 0 and 1 come to be PASSIVE in
     * CYCLE 11, and do not count it as PASSIVE ones.
     */
    private static void notInTheCycleInWhichItCameToBeSo() {
        SlotStart x = new SlotStart();
        x.wake(0, 0);
        x.wake(1, 0);
        x.wake(3, 90);
        x.run(8);
        Check.due("NODE 3 IS ACTIVE", x.told(3, 0), 4);
        Check.due("GOOD of 3", x.told(3, 3), 0);
        Check.due("GOOD of 0", x.told(0, 3), 1);
        Check.due("AT of 3: the GUIDE's, no more", x.told(3, 5), 100000);
        Check.due("RATE of 3", x.told(3, 6), 1000);
        SlotStart y = Scenes.two();
        y.bound(0);
        y.clock(1, 0, 40);
        y.run(3);
        Check.due("PASSIVE", y.told(0, 0), 5);
        Check.due("BAD", y.told(0, 4), 0);
        Check.due("AT as it was", y.told(0, 5), 100000);
        Check.due("RATE as it was", y.told(0, 6), 1000);
    }

    /** BOUND 0: a TRIM of 0 is GOOD, one of 1 or -1 is BAD; a SEEN of 1 or -1 has the TRIM 0. */
    private static void boundOfNothing() {
        for (int sign = -1; sign <= 1; sign += 2) {
            for (int lie = 0; lie <= 3; lie++) {
                SlotStart x = Scenes.two();
                x.bound(0);
                x.clock(1, 1, lie * sign);
                x.run(1);
                Check.due("told(0, 0) with LIE " + lie * sign, x.told(0, 0), lie < 2 ? 4 : 5);
                Check.due("told(0, 5) with LIE " + lie * sign, x.told(0, 5), 100000);
                Check.due("told(1, 0)", x.told(1, 0), 4);
            }
        }
    }

    /**
     * BOUND 500: in CYCLE 11 the NODES 1 and 3 are 102 ticks from NODE 0, and tell a LIE. NODE 0 sees both alike,
     * and 0: the one in the middle is what it sees.
     */
    private static void boundOfMost() {
        for (int sign = -1; sign <= 1; sign += 2) {
            for (int lie = 397; lie <= 400; lie++) {
                SlotStart x = Scenes.three();
                x.bound(500);
                x.clock(0, 0, -sign);
                x.clock(1, 0, 50 * sign);
                x.clock(3, 0, 50 * sign);
                x.run(2);
                x.clock(1, 1, lie * sign);
                x.clock(3, 1, lie * sign);
                x.run(1);
                Check.due("seen(0, 1)", x.seen(0, 1), 100000 + (102 + lie) * sign);
                Check.due("told(0, 0) with a TRIM of " + (102 + lie) * sign, x.told(0, 0), lie <= 398 ? 4 : 5);
            }
        }
    }

    /** A TRIM of 0 alone would be GOOD: it is BAD as nobody was HEARD. */
    private static void nobodyIsBad() {
        SlotStart x = Scenes.two();
        x.bound(500);
        x.off(1);
        x.run(1);
        Check.due("ACTIVE, nobody HEARD", x.told(0, 0), 5);
        SlotStart y = Scenes.onePassive();
        y.bound(500);
        y.off(0);
        y.off(1);
        y.run(2);
        Check.due("PASSIVE, nobody HEARD", y.told(3, 4), 1);
        Check.due("GOOD", y.told(3, 3), 0);
    }

    /** Halves of 5 and -5 are 2 and -2. */
    private static void cutTowardsZero() {
        for (int sign = -1; sign <= 1; sign += 2) {
            SlotStart x = Scenes.two();
            x.run(2);
            x.clock(1, 1, 5 * sign);
            x.run(1);
            Check.due("AT is more by 2, and by a RATE of 2", x.told(0, 5), 100000 + 4 * sign);
            Check.due("RATE", x.told(0, 6), 1000 + 2 * sign);
        }
    }

    /**
     * With so many ACTIVE ones, NODE 0 sees the LIES of the others, and 0. Of two numbers none is left out, of three
     * and more the least and the greatest are.
     */
    private static void trimOfTwoToSix() {
        int[] lies = {0, 40, -10, 100, 60, -30};
        trimOf(2, lies, (0 + 40) / 2);
        trimOf(3, lies, 0);
        trimOf(4, lies, (0 + 40) / 2);
        trimOf(5, lies, (0 + 60) / 2);
        trimOf(6, lies, (-10 + 60) / 2);
        trimOf(6, new int[] {0, 50, 50, 50, -70, -70}, (-70 + 50) / 2);
        trimOf(3, new int[] {0, 70, 70, 0, 0, 0}, 70);
        trimOf(3, new int[] {0, -70, -70, 0, 0, 0}, -70);
        trimOf(4, new int[] {0, 70, 70, 70, 0, 0}, 70);
    }

    private static void trimOf(int nodes, int[] lies, int due) {
        SlotStart x = new SlotStart();
        for (int n = 0; n < nodes; n++) {
            x.wake(n, 0);
        }
        x.run(11);
        for (int n = 1; n < nodes; n++) {
            x.clock(n, 1, lies[n]);
        }
        Check.due("run(1)", Integer.bitCount(x.run(1)), nodes);
        Check.due("RATE by TRIM of " + nodes, x.told(0, 6), 1000 + due);
        Check.due("AT by TRIM of " + nodes, x.told(0, 5), 100000 + 2 * due);
    }

    /** In CYCLE 11 the RATE is more by half of the LIE: up to 100 it is that, beyond it is 100. */
    private static void rateAtItsEnds() {
        int[][] due = {{196, 98}, {198, 99}, {199, 99}, {200, 100}, {201, 100}, {202, 100}, {400, 100}};
        for (int sign = -1; sign <= 1; sign += 2) {
            for (int[] row : due) {
                SlotStart x = Scenes.two();
                x.bound(500);
                x.run(2);
                x.clock(1, 1, row[0] * sign);
                x.run(1);
                Check.due("RATE by " + row[0] * sign, x.told(0, 6), 1000 + row[1] * sign);
                Check.due("AT", x.told(0, 5), 100000 + (row[0] / 2 + row[1]) * sign);
            }
        }
    }

    /**
     * NODE 2 is JOINING by CYCLE 10 and SENDS in CYCLE 11 first, NODE 1 is OFF then: NODE 0 HEARS one that did not
     * SEND ahead, and its RATE is more by TRIM of 0 alone.
     */
    private static void rateOfThoseThatSentAhead() {
        SlotStart x = Scenes.two();
        x.bound(500);
        x.clock(2, 1, 300);
        x.wake(2, 0);
        x.run(2);
        x.off(1);
        x.run(1);
        Check.due("HEARD", x.told(0, 9), 1);
        Check.due("SEEN", x.seen(0, 2), 100300);
        Check.due("GOOD", x.told(0, 3), 3);
        Check.due("AT", x.told(0, 5), 100150);
        Check.due("RATE", x.told(0, 6), 1000);
        SlotStart y = Scenes.two();
        y.bound(500);
        y.clock(2, 1, 300);
        y.wake(2, 0);
        y.run(2);
        y.clock(1, 1, 80);
        y.run(1);
        Check.due("TRIM of 0, 80, 300, and RATE", y.told(0, 5), 100000 + 80 + 40);
        Check.due("TRIM of 0 and 80", y.told(0, 6), 1040);
    }

    /** The LIES of 1, 2, 3 stand since CYCLE 9; in CYCLE 11 they change by 30, -80, 50: 0 and 30 are in the middle. */
    private static void rateByTheMiddleOfMoves() {
        SlotStart x = new SlotStart();
        for (int n = 0; n < 4; n++) {
            x.wake(n, 0);
        }
        x.run(10);
        x.clock(1, 1, 10);
        x.clock(2, 1, 20);
        x.clock(3, 1, -40);
        x.run(1);
        x.clock(1, 1, 40);
        x.clock(2, 1, -60);
        x.clock(3, 1, 10);
        x.run(1);
        Check.due("RATE", x.told(0, 6), 1000 + (0 + 30) / 2);
        Check.due("AT: TRIM of 0, 40, -60, 10, and RATE", x.told(0, 5), 100000 + (0 + 10) / 2 + 15);
    }

    private static void activeFallsSilentAtOnce() {
        SlotStart x = Scenes.two();
        x.run(10);
        Check.due("GOOD ahead", x.told(0, 3), 6);
        x.clock(1, 1, 202);
        x.run(1);
        Check.due("one BAD is enough, however many were GOOD", x.told(0, 0), 5);
        Check.due("BAD", x.told(0, 4), 0);
        Check.due("the one that lies sees nothing of it", x.told(1, 0), 4);
    }

    /** CYCLES 13, 15, 17: BAD is 1, 2, 3. */
    private static void passiveWithBads() {
        SlotStart x = Scenes.onePassive();
        int[] bad = {0, 1, 1, 2, 2, 0};
        int[] is = {5, 5, 5, 5, 5, 6};
        for (int i = 0; i < bad.length; i++) {
            x.run(1);
            Check.due("BAD behind CYCLE " + (12 + i), x.told(3, 4), bad[i]);
            Check.due("IS behind CYCLE " + (12 + i), x.told(3, 0), is[i]);
            Check.due("GOOD behind CYCLE " + (12 + i), x.told(3, 3), 0);
        }
        x.run(6);
        Check.due("HALTED for good", x.told(3, 0), 6);
        Check.due("BAD of a HALTED one", x.told(3, 4), 0);
    }

    /** CYCLES 13 and 15: GOOD is 1, 2. */
    private static void passiveWithGoods() {
        SlotStart x = Scenes.onePassive();
        x.bound(500);
        x.clock(3, 0, 0);
        int[] good = {0, 1, 1, 0};
        int[] is = {5, 5, 5, 4};
        for (int i = 0; i < good.length; i++) {
            x.run(1);
            Check.due("GOOD behind CYCLE " + (12 + i), x.told(3, 3), good[i]);
            Check.due("IS behind CYCLE " + (12 + i), x.told(3, 0), is[i]);
            Check.due("BAD behind CYCLE " + (12 + i), x.told(3, 4), 0);
        }
    }

    /** BAD twice, GOOD once, and so on: it stays PASSIVE; each GOOD moves its clock. */
    private static void goodAndBadEndOneAnother() {
        SlotStart x = Scenes.onePassive();
        int[][] due = {{20, 0, 1}, {20, 0, 2}, {500, 1, 0}, {0, 0, 1}, {500, 1, 0}, {0, 0, 1}, {0, 0, 2}, {500, 1, 0}};
        for (int[] row : due) {
            x.clock(3, 0, 50 * (row[0] == 0 ? -1 : 1));
            x.bound(row[0]);
            x.run(2);
            Check.due("GOOD behind " + x.count(0), x.told(3, 3), row[1]);
            Check.due("BAD behind " + x.count(0), x.told(3, 4), row[2]);
            Check.due("PASSIVE behind " + x.count(0), x.told(3, 0), 5);
        }
    }

    private static void goodHasNoEnd() {
        SlotStart x = Scenes.two();
        x.run(50);
        Check.due("GOOD of NODE 0, ACTIVE since CYCLE 6", x.told(0, 3), 1 + 25);
        Check.due("GOOD of NODE 1, ACTIVE since CYCLE 8", x.told(1, 3), 25);
    }
}
