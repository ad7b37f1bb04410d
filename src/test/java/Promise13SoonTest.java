/** Promise 13: soon. */
final class Promise13SoonTest {
    public static void main(String[] args) {
        none();
        fewerAndFewer();
        passiveOnes();
        haltedOnes();
        firstOfAll();
        atTheEnd();
        changesNothing();
        Check.end();
    }

    private static void none() {
        SlotStart x = new SlotStart();
        Check.due("soon() of none", x.soon(), SlotStart.NONE);
        x.run(3);
        Check.due("soon() of none, later", x.soon(), SlotStart.NONE);
        x.wake(0, 0);
        Check.due("soon() of a STARTER alone", x.soon(), SlotStart.NONE);
        x.wake(4, 0);
        Check.due("soon() of a STARTER and a FOLLOWER", x.soon(), SlotStart.NONE);
        x.off(0);
        Check.due("soon() of a FOLLOWER alone", x.soon(), SlotStart.NONE);
    }

    private static void fewerAndFewer() {
        SlotStart x = new SlotStart();
        x.wake(0, 0);
        x.wake(1, 0);
        x.wake(4, 0);
        for (int behind = 0; behind < 9; behind++) {
            Check.due("soon() behind " + behind, x.soon(), 9 - behind);
            x.run(1);
        }
        Check.due("soon() of ACTIVE ones", x.soon(), 0);
        x.wake(5, 0);
        Check.due("soon() with one more", x.soon(), 2);
        x.off(5);
        Check.due("soon() without it", x.soon(), 0);
    }

    private static void passiveOnes() {
        SlotStart x = Scenes.onePassive();
        Check.due("soon() of one that will be HALTED", x.soon(), SlotStart.NONE);
        x.bound(500);
        Check.due("soon() of one that comes back in CYCLE 15", x.soon(), 4);
    }

    private static void haltedOnes() {
        SlotStart x = Scenes.twoHalted();
        Check.due("soon() of HALTED ones", x.soon(), SlotStart.NONE);
        SlotStart y = Scenes.onePassive();
        y.run(6);
        Check.due("told(3, 0)", y.told(3, 0), 6);
        Check.due("soon() but for a HALTED one", y.soon(), 0);
    }

    /** Both are ACTIVE behind CYCLE 8 alone: in 7 the size of TRIM is 10, in 9 it is 15. */
    private static void firstOfAll() {
        SlotStart x = new SlotStart();
        x.bound(10);
        x.wake(0, 0);
        x.wake(1, 0);
        x.run(6);
        x.clock(1, 0, 20);
        Check.due("soon()", x.soon(), 3);
        Check.due("run(3)", x.run(3), 3);
        Check.due("run(1), CYCLE 9", x.run(1), 0);
        Check.due("soon() of PASSIVE ones alone", x.soon(), SlotStart.NONE);
    }

    /** The last number that is told is 200. */
    private static void atTheEnd() {
        SlotStart x = Scenes.slow();
        Check.due("soon() 243 CYCLES ahead", x.soon(), SlotStart.NONE);
        x.run(41);
        Check.due("soon() 202 CYCLES ahead", x.soon(), SlotStart.NONE);
        x.run(1);
        Check.due("soon() 201 CYCLES ahead", x.soon(), SlotStart.NONE);
        for (int ahead = 200; ahead > 0; ahead--) {
            Check.due("not all are ACTIVE " + ahead + " CYCLES ahead", x.run(1) == 47 ? 1 : 0, 0);
            if (ahead % 40 == 0 || ahead == 199 || ahead == 1) {
                Check.due("soon() " + ahead + " CYCLES ahead", x.soon(), ahead);
            }
        }
        Check.due("all are ACTIVE", x.run(1), 47);
        Check.due("soon()", x.soon(), 0);
    }

    private static void changesNothing() {
        Twins.Story story = x -> {
            x.clock(1, 0, 9);
            x.clock(0, 1, -4);
            x.wake(0, 0);
            x.wake(1, 60);
            x.wake(4, 5);
            x.run(6);
            x.image(1);
        };
        Twins.same("soon() changes nothing", story, x -> {
            story.tell(x);
            Check.due("soon()", x.soon(), 3);
        });
        Twins.same("soon() that is NONE changes nothing", y -> y.wake(0, 7), y -> {
            y.wake(0, 7);
            Check.due("soon()", y.soon(), SlotStart.NONE);
        });
    }
}
