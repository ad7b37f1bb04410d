/** Promise 4: bound. */
final class Promise04BoundTest {
    public static void main(String[] args) {
        SlotStart x = new SlotStart();
        Check.due("bound(-1)", x.bound(-1), SlotStart.OUTSIDE);
        Check.due("bound(501)", x.bound(501), SlotStart.OUTSIDE);
        Check.due("count(4)", x.count(4), 100);
        Check.due("bound(0)", x.bound(0), 100);
        Check.due("bound(500)", x.bound(500), 0);
        Check.due("count(4)", x.count(4), 500);
        Check.due("bound(77)", x.bound(77), 500);
        Check.due("bound(501)", x.bound(501), SlotStart.OUTSIDE);
        Check.due("bound(77)", x.bound(77), 77);
        atTheBound(40, 3);
        atTheBound(39, 0);
        Check.end();
    }

    /** In CYCLE 11 each sees the other 80 off: the size of TRIM is 40. */
    private static void atTheBound(int bound, int active) {
        for (int drift = -40; drift <= 40; drift += 80) {
            SlotStart x = Scenes.two();
            x.clock(1, 0, drift);
            x.bound(bound);
            Check.due("run(2)", x.run(2), 3);
            Check.due("run(1) with BOUND " + bound + ", DRIFT " + drift, x.run(1), active);
        }
    }
}
