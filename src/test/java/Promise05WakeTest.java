/** Promise 5: wake. */
final class Promise05WakeTest {
    public static void main(String[] args) {
        refusals();
        answers();
        halted();
        haltedWithARate();
        whatStays();
        Check.end();
    }

    private static void refusals() {
        SlotStart x = new SlotStart();
        Check.due("wake(-1, 0)", x.wake(-1, 0), SlotStart.UNKNOWN);
        Check.due("wake(6, 501)", x.wake(6, 501), SlotStart.UNKNOWN);
        Check.due("wake(0, 501)", x.wake(0, 501), SlotStart.OUTSIDE);
        Check.due("wake(0, -501)", x.wake(0, -501), SlotStart.OUTSIDE);
        Check.due("told(0, 0)", x.told(0, 0), 0);
        x.wake(0, 5);
        Check.due("wake of a LISTENING one, outside", x.wake(0, 501), SlotStart.OUTSIDE);
        Check.due("wake of a LISTENING one", x.wake(0, 9), SlotStart.STATE);
        Check.due("AT stays", x.told(0, 5), 100005);
        x.run(3);
        Check.due("wake of a LEADING one", x.wake(0, 9), SlotStart.STATE);
        SlotStart y = Scenes.two();
        Check.due("wake of an ACTIVE one", y.wake(0, 9), SlotStart.STATE);
        SlotStart z = Scenes.onePassive();
        Check.due("told(3, 0)", z.told(3, 0), 5);
        Check.due("wake of a PASSIVE one", z.wake(3, 9), SlotStart.STATE);
        SlotStart j = new SlotStart();
        j.wake(0, 0);
        j.wake(1, 0);
        j.run(6);
        Check.due("told(1, 0)", j.told(1, 0), 3);
        Check.due("wake of a JOINING one", j.wake(1, 9), SlotStart.STATE);
    }

    private static void answers() {
        SlotStart x = new SlotStart();
        x.run(4);
        for (int n = 0; n < 6; n++) {
            Check.due("wake(" + n + ")", x.wake(n, n % 2 == 0 ? 500 : -500), n + 1);
            Check.due("told(" + n + ", 0)", x.told(n, 0), 1);
            Check.due("told(" + n + ", 1)", x.told(n, 1), 0);
            Check.due("told(" + n + ", 5)", x.told(n, 5), n % 2 == 0 ? 100500 : 99500);
        }
        x.off(3);
        Check.due("wake(3, 0)", x.wake(3, 0), 6);
        Check.due("a call makes no event", x.event(-1, 0), 0);
    }

    private static void halted() {
        SlotStart x = Scenes.twoHalted();
        Check.due("told(0, 0)", x.told(0, 0), 6);
        Check.due("wake(2, 0): HALTED ones do not count", x.wake(2, 0), 1);
        Check.due("told(0, 7) of a HALTED one", x.told(0, 7), 8);
        x.run(1);
        Check.due("wake(0, -3)", x.wake(0, -3), 2);
        Check.due("told(0, 0)", x.told(0, 0), 1);
        Check.due("told(0, 1)", x.told(0, 1), 0);
        Check.due("told(0, 5)", x.told(0, 5), 99997);
        Check.due("told(0, 6)", x.told(0, 6), 1000);
        Check.due("told(0, 7)", x.told(0, 7), 0);
    }

    /** NODE 3 corrects its RATE in CYCLE 11, and is too far off from CYCLE 13 on. */
    private static void haltedWithARate() {
        SlotStart x = Scenes.three();
        x.clock(3, 0, 40);
        x.run(3);
        Check.due("RATE of an ACTIVE one", x.told(3, 6), 960);
        x.bound(0);
        x.clock(3, 0, -50);
        x.run(9);
        Check.due("HALTED", x.told(3, 0), 6);
        Check.due("RATE of a HALTED one", x.told(3, 6), 960);
        x.wake(3, 500);
        Check.due("RATE of one that is woken", x.told(3, 6), 1000);
        Check.due("AT of one that is woken", x.told(3, 5), 100500);
        x.run(1);
        Check.due("AT with its DRIFT", x.told(3, 5), 100450);
    }

    /** KIND, SLOT, WAIT, DRIFT and LIE are not touched by wake, nor by off. */
    private static void whatStays() {
        SlotStart x = new SlotStart();
        x.node(4, 1, 8, 5);
        x.clock(4, 0, -6);
        x.clock(4, 1, 66);
        x.wake(4, 0);
        x.off(4);
        x.wake(4, 100);
        x.run(4);
        Check.due("WAIT", x.told(4, 0), 1);
        x.run(1);
        Check.due("KIND", x.told(4, 0), 2);
        Check.due("AT", x.told(4, 5), 100070);
        x.off(4);
        Check.due("DRIFT", x.clock(4, 0, 0), 994);
        Check.due("LIE", x.clock(4, 1, 0), 1066);
        Check.due("SLOT", x.node(4, 1, 5, 3), 8);
    }
}
