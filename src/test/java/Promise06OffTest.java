/** Promise 6: off. */
final class Promise06OffTest {
    public static void main(String[] args) {
        refusals();
        whatItWas();
        allIsZero();
        whatWasHeardStays();
        Check.end();
    }

    private static void refusals() {
        SlotStart x = new SlotStart();
        Check.due("off(-1)", x.off(-1), SlotStart.UNKNOWN);
        Check.due("off(6)", x.off(6), SlotStart.UNKNOWN);
    }

    private static void whatItWas() {
        SlotStart x = new SlotStart();
        Check.due("off of one that is OFF", x.off(0), 0);
        x.wake(0, 0);
        Check.due("off of a LISTENING one", x.off(0), 1);
        x.wake(0, 0);
        x.run(3);
        Check.due("off of a LEADING one", x.off(0), 2);
        SlotStart y = new SlotStart();
        y.wake(0, 0);
        y.wake(1, 0);
        y.run(6);
        Check.due("off of a JOINING one", y.off(1), 3);
        Check.due("off of an ACTIVE one", Scenes.two().off(1), 4);
        Check.due("off of a PASSIVE one", Scenes.onePassive().off(3), 5);
        Check.due("off of a HALTED one", Scenes.twoHalted().off(0), 6);
    }

    private static void allIsZero() {
        SlotStart x = Scenes.onePassive();
        x.run(2);
        Check.due("BAD ahead", x.told(3, 4), 1);
        x.off(3);
        int[] due = {0, 0, 0, 0, 0, 100000, 1000, 0};
        for (int what = 0; what < due.length; what++) {
            Check.due("told(3, " + what + ")", x.told(3, what), due[what]);
        }
        x.run(5);
        Check.due("AGE of one that is OFF", x.told(3, 1), 5);
        Check.due("AT of one that is OFF", x.told(3, 5), 100000);
        x.off(3);
        Check.due("AGE of one that is OFF again", x.told(3, 1), 0);
        SlotStart r = Scenes.two();
        r.clock(1, 0, 40);
        r.run(3);
        Check.due("RATE ahead", r.told(0, 6), 1020);
        r.off(0);
        Check.due("RATE behind", r.told(0, 6), 1000);
        SlotStart y = Scenes.three();
        y.off(0);
        y.run(1);
        Check.due("one that is OFF does not SEND", y.count(1), 10);
        Check.due("a call makes no event", y.event(y.event(-1, 0) - 1, 1), 1);
    }

    /** It was so in the last CYCLE, whatever the NODE IS since. */
    private static void whatWasHeardStays() {
        SlotStart x = Scenes.three();
        x.off(3);
        Check.due("GUIDE of the last CYCLE", x.told(3, 8), 0);
        Check.due("HEARD in the last CYCLE", x.told(3, 9), 2);
        Check.due("SEEN in the last CYCLE", x.seen(3, 1), 100000);
        x.run(1);
        Check.due("GUIDE of one that was OFF", x.told(3, 8), SlotStart.NONE);
        Check.due("HEARD by one that was OFF", x.told(3, 9), 0);
        Check.due("SEEN by one that was OFF", x.seen(3, 1), SlotStart.NONE);
        x.wake(3, 0);
        x.run(1);
        Check.due("one that was OFF in the CYCLE ahead", x.told(3, 0), 1);
        x.run(1);
        Check.due("one that HEARD two in both", x.told(3, 0), 4);
    }
}
