/** Terms 2, step (c), LISTENING: QUIET, JOINING, a FOLLOWER that IS ACTIVE, FOLLOWING, LEADING. */
final class Terms2cListeningTest {
    public static void main(String[] args) {
        quietOfAll();
        quietIsWait();
        quietEnds();
        theSameGuideTwice();
        anotherGuide();
        guideButForOneCycle();
        oneThatWasOffAhead();
        oneThatWasHaltedAhead();
        twoStartersTwice();
        twoStartersOfManyThatSend();
        noGuideTwice();
        whatWasHeardByAnotherKind();
        followingBeyondTheEndsOfRate();
        followingAsThingsWere();
        followingAsItIsInThisCycle();
        Check.end();
    }

    /** FOLLOWERS count QUIET, too, without an end. */
    private static void quietOfAll() {
        SlotStart x = new SlotStart();
        x.wake(3, 0);
        Check.due("QUIET at first", x.told(3, 2), 0);
        for (int i = 1; i <= 12; i++) {
            x.run(1);
            Check.due("QUIET behind " + i, x.told(3, 2), i);
            Check.due("told(3, 0) behind " + i, x.told(3, 0), 1);
        }
    }

    private static void quietIsWait() {
        for (int wait = 1; wait <= 9; wait++) {
            SlotStart x = new SlotStart();
            x.node(2, 1, 3, wait);
            x.wake(2, 0);
            for (int i = 1; i < wait; i++) {
                x.run(1);
                Check.due("QUIET below WAIT " + wait, x.told(2, 2), i);
                Check.due("LISTENING below WAIT " + wait, x.told(2, 0), 1);
            }
            x.run(1);
            Check.due("LEADING with WAIT " + wait, x.told(2, 0), 2);
        }
    }

    /** By a SIGN in CYCLE 3, by what is HEARD from CYCLE 4 on; and it begins again behind both. */
    private static void quietEnds() {
        SlotStart x = new SlotStart();
        x.wake(0, 0);
        x.wake(4, 0);
        int[] quiet = {1, 2, 3, 0, 0, 0};
        for (int cycle = 0; cycle < quiet.length; cycle++) {
            x.run(1);
            Check.due("QUIET behind CYCLE " + cycle, x.told(4, 2), quiet[cycle]);
        }
        x.off(0);
        x.run(1);
        Check.due("QUIET when it is OFF", x.told(4, 2), 1);
        SlotStart y = new SlotStart();
        y.wake(0, 0);
        y.wake(4, 0);
        y.run(4);
        Check.due("QUIET behind the SIGN", y.told(4, 2), 0);
        y.off(0);
        y.run(1);
        Check.due("QUIET when there is but a SIGN", y.told(4, 2), 1);
    }

    /** NODE 0 SENDS in CYCLE 4 first. */
    private static void theSameGuideTwice() {
        SlotStart x = new SlotStart();
        x.node(1, 1, 2, 9);
        x.wake(0, 0);
        x.wake(1, 0);
        x.run(5);
        Check.due("GUIDE in CYCLE 4", x.told(1, 8), 0);
        Check.due("a GUIDE once", x.told(1, 0), 1);
        x.run(1);
        Check.due("the same GUIDE twice", x.told(1, 0), 3);
    }

    /** NODE 2 has the GUIDE 0 in CYCLE 9, then 1 in CYCLES 10 and 11. */
    private static void anotherGuide() {
        SlotStart x = Scenes.two();
        x.node(2, 1, 3, 9);
        x.wake(2, 0);
        x.run(1);
        Check.due("GUIDE in CYCLE 9", x.told(2, 8), 0);
        x.off(0);
        x.run(1);
        Check.due("GUIDE in CYCLE 10", x.told(2, 8), 1);
        Check.due("another GUIDE", x.told(2, 0), 1);
        x.run(1);
        Check.due("GUIDE in CYCLE 11", x.told(2, 8), 1);
        Check.due("that GUIDE twice", x.told(2, 0), 3);
    }

    /** The GUIDE is there in CYCLE 4, nobody in CYCLE 5. */
    private static void guideButForOneCycle() {
        SlotStart x = new SlotStart();
        x.node(1, 1, 2, 9);
        x.wake(0, 0);
        x.wake(1, 0);
        x.run(5);
        x.off(0);
        x.run(1);
        Check.due("no GUIDE now", x.told(1, 8), SlotStart.NONE);
        Check.due("no GUIDE now", x.told(1, 0), 1);
        Check.due("QUIET", x.told(1, 2), 1);
    }

    private static void oneThatWasOffAhead() {
        SlotStart x = Scenes.two();
        x.wake(2, 0);
        x.wake(3, 0);
        x.run(1);
        Check.due("a STARTER that was OFF ahead", x.told(2, 0), 1);
        Check.due("a FOLLOWER that was OFF ahead", x.told(3, 0), 1);
        x.run(1);
        Check.due("a STARTER behind two CYCLES", x.told(2, 0), 3);
        Check.due("a FOLLOWER behind two CYCLES", x.told(3, 0), 4);
    }

    /**
     * NODES 2 and 3 are HALTED by CYCLE 17. Woken behind it they HEARD in CYCLE 17 as PASSIVE ones did; woken behind
     * CYCLE 18 they HEARD nobody ahead.
     */
    private static void oneThatWasHaltedAhead() {
        SlotStart x = haltedStarterAndFollower();
        x.run(1);
        x.wake(2, 0);
        x.wake(3, 0);
        x.run(1);
        Check.due("a STARTER that was HALTED ahead", x.told(2, 0), 1);
        Check.due("a FOLLOWER that was HALTED ahead", x.told(3, 0), 1);
        x.run(1);
        Check.due("a STARTER behind two CYCLES", x.told(2, 0), 3);
        Check.due("a FOLLOWER behind two CYCLES", x.told(3, 0), 4);
        SlotStart y = haltedStarterAndFollower();
        y.wake(2, 0);
        y.wake(3, 0);
        y.run(1);
        Check.due("a STARTER that was PASSIVE ahead", y.told(2, 0), 3);
        Check.due("a FOLLOWER that was PASSIVE ahead", y.told(3, 0), 4);
    }

    /** 0, 1 and 4 are ACTIVE; 2 and 3 drift away to both sides from CYCLE 9 on, PASSIVE by CYCLE 11, HALTED by CYCLE 17. */
    private static SlotStart haltedStarterAndFollower() {
        SlotStart x = new SlotStart();
        for (int n = 0; n < 5; n++) {
            x.wake(n, 0);
        }
        x.run(9);
        x.bound(20);
        x.clock(2, 0, 50);
        x.clock(3, 0, -50);
        x.run(9);
        Check.due("count(2)", x.count(2), 19);
        Check.due("count(3)", x.count(3), 12);
        return x;
    }

    /** How many STARTERS NODE 5 HEARS in CYCLES 10 and 11, of 0, 1 and 2 that are ACTIVE. */
    private static void twoStartersTwice() {
        int[][] due = {{3, 3, 4}, {3, 2, 4}, {3, 1, 1}, {2, 2, 4}, {2, 1, 1}, {1, 1, 1}, {1, 0, 1}, {2, 0, 1}};
        for (int[] row : due) {
            SlotStart x = new SlotStart();
            for (int n = 0; n < 3; n++) {
                x.wake(n, 0);
            }
            x.run(10);
            x.wake(5, 0);
            offBut(x, row[0]);
            x.run(1);
            Check.due("HEARD in CYCLE 10", x.told(5, 9), row[0]);
            offBut(x, row[1]);
            x.run(1);
            Check.due("HEARD in CYCLE 11", x.told(5, 9), row[1]);
            Check.due("told(5, 0), " + row[0] + " then " + row[1], x.told(5, 0), row[2]);
        }
        moreThanAhead();
    }

    private static void offBut(SlotStart x, int some) {
        for (int n = some; n < 3; n++) {
            x.off(n);
        }
    }

    /** NODE 5 HEARS 0 in CYCLES 4 and 5, 0 and 1 from CYCLE 6 on. */
    private static void moreThanAhead() {
        SlotStart x = new SlotStart();
        x.wake(0, 0);
        x.wake(1, 0);
        x.wake(5, 0);
        int[] heard = {0, 0, 0, 0, 1, 1, 2, 2};
        for (int cycle = 0; cycle < heard.length; cycle++) {
            x.run(1);
            Check.due("HEARD in CYCLE " + cycle, x.told(5, 9), heard[cycle]);
            Check.due("told(5, 0) behind CYCLE " + cycle, x.told(5, 0), cycle == 7 ? 4 : 1);
        }
    }

    /** One STARTER and three FOLLOWERS SEND: for NODE 5 that is not enough, for a STARTER it is. */
    private static void twoStartersOfManyThatSend() {
        SlotStart x = new SlotStart();
        x.node(2, 2, 3, 3);
        for (int n = 0; n < 5; n++) {
            x.wake(n, 0);
        }
        x.run(10);
        Check.due("count(2)", x.count(2), 31);
        x.off(1);
        x.run(1);
        x.wake(1, 0);
        x.wake(5, 0);
        x.run(2);
        Check.due("HEARD", x.told(5, 9), 4);
        Check.due("a FOLLOWER with one STARTER", x.told(5, 0), 1);
        Check.due("a STARTER with one STARTER", x.told(1, 0), 3);
        x.run(2);
        Check.due("a FOLLOWER with two STARTERS", x.told(5, 0), 4);
    }

    /** "The same one": none in both CYCLES is no GUIDE. */
    private static void noGuideTwice() {
        SlotStart x = new SlotStart();
        x.node(0, 1, 1, 9);
        x.wake(0, 0);
        for (int i = 0; i < 8; i++) {
            x.run(1);
            Check.due("LISTENING", x.told(0, 0), 1);
        }
    }

    /** One that was a FOLLOWER in the CYCLE ahead and is a STARTER now had that GUIDE, too; and the other way. */
    private static void whatWasHeardByAnotherKind() {
        SlotStart x = Scenes.two();
        x.wake(3, 0);
        x.run(1);
        x.off(3);
        x.node(3, 1, 4, 9);
        x.wake(3, 0);
        x.run(1);
        Check.due("a STARTER since", x.told(3, 0), 3);
        SlotStart y = Scenes.two();
        y.wake(2, 0);
        y.run(1);
        y.off(2);
        y.node(2, 2, 3, 9);
        y.wake(2, 0);
        y.run(1);
        Check.due("a FOLLOWER since", y.told(2, 0), 4);
    }

    /**
     * In CYCLE 11 NODE 0 has a RATE of 100 (or -100). With a DRIFT of 50 it gains 150 a CYCLE: one with a DRIFT of
     * -50 needs a RATE of 200 to FOLLOW it, and has it. Its first correction cuts it to 100.
     */
    private static void followingBeyondTheEndsOfRate() {
        for (int sign = -1; sign <= 1; sign += 2) {
            SlotStart x = Scenes.two();
            x.bound(500);
            x.run(2);
            x.clock(1, 1, 400 * sign);
            x.run(1);
            Check.due("RATE of the GUIDE", x.told(0, 6), 1000 + 100 * sign);
            x.clock(0, 0, 50 * sign);
            x.clock(2, 0, -50 * sign);
            x.wake(2, 0);
            x.run(2);
            Check.due("told(2, 0)", x.told(2, 0), 3);
            Check.due("RATE of one that FOLLOWS", x.told(2, 6), 1000 + 200 * sign);
            x.run(3);
            Check.due("RATE ahead of its first correction", x.told(2, 6), 1000 + 200 * sign);
            Check.due("told(2, 0)", x.told(2, 0), 4);
            x.run(1);
            Check.due("GOOD", x.told(2, 3), 1);
            Check.due("RATE behind it: 200 less 75 is beyond", x.told(2, 6), 1000 + 100 * sign);
        }
    }

    /**
     * CYCLE 11 is odd: the GUIDE is at 20 in it and corrects itself to 10, and its RATE from 0 to -5. The one that
     * FOLLOWS takes what was SEEN, and the RATE as it was.
     */
    private static void followingAsThingsWere() {
        SlotStart x = Scenes.two();
        x.clock(0, 0, 10);
        x.run(1);
        x.clock(2, 1, 1);
        x.wake(2, -7);
        x.run(2);
        Check.due("AT of the GUIDE", x.told(0, 5), 100000 + 10 + 5);
        Check.due("RATE of the GUIDE", x.told(0, 6), 995);
        Check.due("told(2, 0)", x.told(2, 0), 3);
        Check.due("SEEN of the GUIDE", x.seen(2, 0), 100027);
        Check.due("RATE of one that FOLLOWS", x.told(2, 6), 1010);
        Check.due("AT of one that FOLLOWS", x.told(2, 5), 100030);
    }

    /**
     * DRIFT and RATE of the GUIDE are those of the CYCLE in which it is FOLLOWED, not those of the one ahead: NODES 2
     * and 3 have it ahead in CYCLE 9 (11), and then its DRIFT is set between the two (its RATE was corrected at the end).
     */
    private static void followingAsItIsInThisCycle() {
        SlotStart x = Scenes.two();
        x.wake(2, 0);
        x.wake(3, 0);
        x.clock(3, 0, -4);
        x.run(1);
        x.clock(0, 0, 10);
        x.run(1);
        Check.due("JOINING in CYCLE 10", x.told(2, 0), 3);
        Check.due("RATE by the new DRIFT", x.told(2, 6), 1010);
        Check.due("ACTIVE in CYCLE 10", x.told(3, 0), 4);
        Check.due("RATE by the new DRIFT, less its own", x.told(3, 6), 1014);
        SlotStart y = Scenes.two();
        y.clock(0, 0, 10);
        y.run(2);
        y.wake(2, 0);
        y.wake(3, 0);
        y.run(1);
        Check.due("RATE of the GUIDE behind CYCLE 11", y.told(0, 6), 995);
        y.run(1);
        Check.due("JOINING in CYCLE 12", y.told(2, 0), 3);
        Check.due("RATE by the new RATE", y.told(2, 6), 1005);
        Check.due("ACTIVE in CYCLE 12", y.told(3, 0), 4);
        Check.due("RATE by the new RATE, of a FOLLOWER", y.told(3, 6), 1005);
    }
}
