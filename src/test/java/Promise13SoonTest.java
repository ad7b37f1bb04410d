import java.util.List;

/** Promise 13: soon. */
final class Promise13SoonTest {
    public static void main(String[] args) {
        SlotStart x = new SlotStart();
        Check.due("soon() of none", x.soon(), SlotStart.NONE);
        x.wake(0, 0);
        Check.due("soon() of a STARTER alone", x.soon(), SlotStart.NONE);
        x.wake(4, 0);
        Check.due("soon() of a STARTER and a FOLLOWER", x.soon(), SlotStart.NONE);
        x.wake(1, 0);
        for (int behind = 0; behind < 9; behind++) {
            List<Integer> ahead = Dump.of(x);
            Check.due("soon() behind " + behind, x.soon(), 9 - behind);
            Dump.same("soon() changes nothing", Dump.of(x), ahead);
            x.run(1);
        }
        Check.due("soon() of ACTIVE ones", x.soon(), 0);
        x.wake(5, 0);
        Check.due("soon() with one more", x.soon(), 2);
        x.off(5);
        Check.due("soon() without it", x.soon(), 0);
        passiveOnes();
        haltedOnes();
        firstOfAll();
        Check.end();
    }

    private static void passiveOnes() {
        SlotStart x = Scenes.onePassive();
        Check.due("soon() of one that will be HALTED", x.soon(), SlotStart.NONE);
        x.bound(500);
        Check.due("soon() of one that comes back in CYCLE 15", x.soon(), 4);
    }

    private static void haltedOnes() {
        SlotStart x = Scenes.twoHalted();
        Check.due("soon() of HALTED ones", x.soon(), SlotStart.NONE);
        SlotStart y = Scenes.onePassive();
        y.run(6);
        Check.due("told(3, 0)", y.told(3, 0), 6);
        Check.due("soon() but for a HALTED one", y.soon(), 0);
    }

    /** Both are ACTIVE behind CYCLE 8 alone: in 7 the size of TRIM is 10, in 9 it is 15. */
    private static void firstOfAll() {
        SlotStart x = new SlotStart();
        x.bound(10);
        x.wake(0, 0);
        x.wake(1, 0);
        x.run(6);
        x.clock(1, 0, 20);
        Check.due("soon()", x.soon(), 3);
        Check.due("run(3)", x.run(3), 3);
        Check.due("run(1), CYCLE 9", x.run(1), 0);
        Check.due("soon() of PASSIVE ones alone", x.soon(), SlotStart.NONE);
    }
}
