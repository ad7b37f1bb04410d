/** Promise 17: count. */
final class Promise17CountTest {
    public static void main(String[] args) {
        SlotStart x = new SlotStart();
        Check.due("count(-1)", x.count(-1), SlotStart.OUTSIDE);
        Check.due("count(6)", x.count(6), SlotStart.OUTSIDE);
        all(x, 0, 0, 0, 0, 100, 0);
        x.image(0);
        x.wake(0, 0);
        x.wake(1, 0);
        x.wake(5, 0);
        x.run(4);
        all(x, 4, 0, 0, 0, 100, 1);
        x.run(3);
        all(x, 7, 3, 1, 0, 100, 1);
        x.run(1);
        all(x, 8, 3, 33, 0, 100, 1);
        x.image(1);
        x.run(1);
        all(x, 9, 35, 35, 0, 100, 3);
        x.off(1);
        all(x, 9, 35, 33, 0, 100, 3);
        x.run(1);
        all(x, 10, 33, 33, 0, 100, 3);
        x.restore(0);
        all(x, 0, 0, 0, 0, 100, 3);
        SlotStart y = Scenes.twoHalted();
        all(y, 18, 0, 0, 3, 0, 0);
        y.off(0);
        all(y, 18, 0, 0, 2, 0, 0);
        y.wake(1, 0);
        all(y, 18, 0, 0, 0, 0, 0);
        setsOfEach();
        Check.end();
    }

    /** Each NODE with its own bit: NODE n leads alone, or is HALTED alone. */
    private static void setsOfEach() {
        for (int n = 0; n < 6; n++) {
            SlotStart x = new SlotStart();
            x.node(n, 1, n + 1, 1);
            x.wake(n, 0);
            x.run(3);
            all(x, 3, 1 << n, 0, 0, 100, 0);
        }
        for (int n = 2; n < 6; n++) {
            SlotStart x = Scenes.six();
            x.off(n == 5 ? 4 : 5);
            x.bound(20);
            x.clock(n, 0, 50);
            x.run(9);
            int others = 63 & ~(1 << n) & ~(n == 5 ? 16 : 32);
            all(x, 18, others, others, 1 << n, 20, 0);
        }
        SlotStart x = Scenes.six();
        all(x, 9, 63, 63, 0, 100, 0);
        x.bound(0);
        for (int n = 0; n < 6; n++) {
            x.clock(n, 0, 20 * n - 50);
        }
        x.run(50);
        all(x, 59, 0, 0, 63, 0, 0);
    }

    private static void all(SlotStart x, int... due) {
        for (int what = 0; what < due.length; what++) {
            Check.due("count(" + what + ") behind " + x.count(0), x.count(what), due[what]);
        }
    }
}
