/** Terms 2, step (b): who is HEARD, the GUIDE, and what is SEEN. */
final class Terms2bHeardTest {
    private static final int NONE = SlotStart.NONE;

    public static void main(String[] args) {
        nobody();
        oneAndItself();
        asManyAsThereAre();
        followersAreNoGuides();
        theLeastSlotOfStarters();
        offAndHaltedOnesHearNobody();
        whatIsSeen();
        Check.end();
    }

    private static void nobody() {
        SlotStart x = new SlotStart();
        x.wake(0, 0);
        x.run(5);
        Check.due("it SENDS", x.count(1), 1);
        Check.due("it does not HEAR itself", x.told(0, 9), 0);
        Check.due("no GUIDE", x.told(0, 8), NONE);
        for (int other = 1; other < 6; other++) {
            Check.due("seen(0, " + other + ")", x.seen(0, other), NONE);
        }
    }

    private static void oneAndItself() {
        SlotStart x = Scenes.two();
        Check.due("count(1)", x.count(1), 3);
        Check.due("told(0, 9)", x.told(0, 9), 1);
        Check.due("told(1, 9)", x.told(1, 9), 1);
        Check.due("the GUIDE of the one with the least SLOT", x.told(0, 8), 1);
        Check.due("the GUIDE of the other one", x.told(1, 8), 0);
    }

    private static void asManyAsThereAre() {
        SlotStart x = Scenes.six();
        x.run(1);
        Check.due("count(1)", x.count(1), 63);
        for (int n = 0; n < 6; n++) {
            Check.due("told(" + n + ", 9)", x.told(n, 9), 5);
            Check.due("told(" + n + ", 8)", x.told(n, 8), n == 0 ? 1 : 0);
            for (int other = 0; other < 6; other++) {
                int due = n == other ? SlotStart.OUTSIDE : 100000;
                Check.due("seen(" + n + ", " + other + ")", x.seen(n, other), due);
            }
        }
    }

    /** Only NODE 3, a FOLLOWER, SENDS. */
    private static void followersAreNoGuides() {
        SlotStart x = Scenes.three();
        x.off(0);
        x.off(1);
        x.wake(2, 30);
        x.wake(4, 0);
        x.run(1);
        Check.due("count(1)", x.count(1), 8);
        Check.due("HEARD by a STARTER", x.told(2, 9), 1);
        Check.due("no GUIDE of a STARTER", x.told(2, 8), NONE);
        Check.due("it is SEEN all the same", x.seen(2, 3), 99970);
        Check.due("HEARD by a FOLLOWER", x.told(4, 9), 1);
        Check.due("no GUIDE of a FOLLOWER", x.told(4, 8), NONE);
        Check.due("QUIET of a STARTER", x.told(2, 2), 0);
    }

    /** A FOLLOWER has the least SLOT of all, the STARTERS have 7, 8, 9, the least of them the greatest number. */
    private static void theLeastSlotOfStarters() {
        SlotStart x = new SlotStart();
        x.node(0, 1, 9, 3);
        x.node(1, 1, 8, 3);
        x.node(2, 1, 7, 3);
        x.node(3, 2, 1, 3);
        for (int n = 0; n < 4; n++) {
            x.wake(n, 0);
        }
        x.run(10);
        Check.due("count(1)", x.count(1), 15);
        Check.due("GUIDE of 0", x.told(0, 8), 2);
        Check.due("GUIDE of 1", x.told(1, 8), 2);
        Check.due("GUIDE of 2", x.told(2, 8), 1);
        Check.due("GUIDE of 3", x.told(3, 8), 2);
        x.off(2);
        x.run(1);
        Check.due("GUIDE of 0 without 2", x.told(0, 8), 1);
        Check.due("GUIDE of 1 without 2", x.told(1, 8), 0);
        Check.due("GUIDE of 3 without 2", x.told(3, 8), 1);
    }

    private static void offAndHaltedOnesHearNobody() {
        SlotStart x = Scenes.onePassive();
        x.run(1);
        Check.due("HEARD by a PASSIVE one", x.told(3, 9), 2);
        x.run(5);
        Check.due("count(3)", x.count(3), 8);
        Check.due("in the CYCLE in which it came to be HALTED it HEARD", x.told(3, 9), 2);
        x.run(1);
        Check.due("the others SEND", x.count(1), 3);
        Check.due("HEARD by a HALTED one", x.told(3, 9), 0);
        Check.due("GUIDE of a HALTED one", x.told(3, 8), NONE);
        Check.due("SEEN by a HALTED one", x.seen(3, 0), NONE);
        Check.due("SEEN of a HALTED one", x.seen(0, 3), NONE);
        Check.due("HEARD by one that is OFF", x.told(4, 9), 0);
        Check.due("GUIDE of one that is OFF", x.told(4, 8), NONE);
        Check.due("SEEN by one that is OFF", x.seen(4, 0), NONE);
        Check.due("HEARD by an ACTIVE one", x.told(0, 9), 1);
    }

    /** The AT of both, and the LIE of the other one alone, at their ends. */
    private static void whatIsSeen() {
        for (int sign = -1; sign <= 1; sign += 2) {
            SlotStart x = new SlotStart();
            x.clock(0, 1, 400 * sign);
            x.clock(4, 1, 400 * sign);
            x.wake(0, 500 * sign);
            x.wake(4, -500 * sign);
            x.wake(5, 500 * sign);
            x.run(5);
            Check.due("seen(4, 0)", x.seen(4, 0), 100000 + 1400 * sign);
            Check.due("seen(5, 0)", x.seen(5, 0), 100000 + 400 * sign);
        }
    }
}
