/** Promise 3: clock. */
final class Promise03ClockTest {
    public static void main(String[] args) {
        refusals();
        allNumbers();
        anyNode();
        answers();
        effects();
        Check.end();
    }

    private static void refusals() {
        SlotStart x = new SlotStart();
        Check.due("clock(-1, 0, 0)", x.clock(-1, 0, 0), SlotStart.UNKNOWN);
        Check.due("clock(6, 2, 999)", x.clock(6, 2, 999), SlotStart.UNKNOWN);
        Check.due("clock(0, -1, 0)", x.clock(0, -1, 0), SlotStart.OUTSIDE);
        Check.due("clock(0, 2, 0)", x.clock(0, 2, 0), SlotStart.OUTSIDE);
        Check.due("clock(0, 0, 51)", x.clock(0, 0, 51), SlotStart.OUTSIDE);
        Check.due("clock(0, 0, -51)", x.clock(0, 0, -51), SlotStart.OUTSIDE);
        Check.due("clock(0, 1, 401)", x.clock(0, 1, 401), SlotStart.OUTSIDE);
        Check.due("clock(0, 1, -401)", x.clock(0, 1, -401), SlotStart.OUTSIDE);
        Check.due("refused: DRIFT as it was", x.clock(0, 0, 0), 1000);
        Check.due("refused: LIE as it was", x.clock(0, 1, 0), 1000);
    }

    /** Numbers that are outside for DRIFT may be within for LIE. */
    private static void allNumbers() {
        int[] numbers = {-401, -400, -399, -51, -50, -49, -1, 0, 1, 49, 50, 51, 399, 400, 401};
        for (int v : numbers) {
            boolean isDrift = v >= -50 && v <= 50;
            boolean isLie = v >= -400 && v <= 400;
            SlotStart x = new SlotStart();
            Check.due("clock(2, 0, " + v + ")", x.clock(2, 0, v), isDrift ? 1000 : SlotStart.OUTSIDE);
            Check.due("DRIFT then", x.clock(2, 0, 0), 1000 + (isDrift ? v : 0));
            Check.due("clock(2, 1, " + v + ")", x.clock(2, 1, v), isLie ? 1000 : SlotStart.OUTSIDE);
            Check.due("LIE then", x.clock(2, 1, 0), 1000 + (isLie ? v : 0));
            Check.due("clock(2, -1, " + v + ")", x.clock(2, -1, v), SlotStart.OUTSIDE);
            Check.due("clock(2, 2, " + v + ")", x.clock(2, 2, v), SlotStart.OUTSIDE);
        }
    }

    /** Whatever a NODE IS, its clock may be changed; it IS the same then, with the same AGE and AT. */
    private static void anyNode() {
        SlotStart[] some = {new SlotStart(), Scenes.six(), Scenes.onePassive(), Scenes.twoHalted(), Scenes.slow()};
        for (SlotStart x : some) {
            for (int n = 0; n < 6; n++) {
                int[] ahead = new int[10];
                for (int what = 0; what < 10; what++) {
                    ahead[what] = x.told(n, what);
                }
                x.clock(n, 0, n + 1);
                x.clock(n, 1, n + 11);
                for (int what = 0; what < 10; what++) {
                    Check.due("told(" + n + ", " + what + ")", x.told(n, what), ahead[what]);
                }
                Check.due("DRIFT of " + n, x.clock(n, 0, 0), 1001 + n);
                Check.due("LIE of " + n, x.clock(n, 1, 0), 1011 + n);
            }
        }
    }

    private static void answers() {
        SlotStart x = new SlotStart();
        Check.due("clock(5, 0, 50)", x.clock(5, 0, 50), 1000);
        Check.due("clock(5, 0, -50)", x.clock(5, 0, -50), 1050);
        Check.due("clock(5, 0, 7)", x.clock(5, 0, 7), 950);
        Check.due("clock(5, 1, 400)", x.clock(5, 1, 400), 1000);
        Check.due("clock(5, 1, -400)", x.clock(5, 1, -400), 1400);
        Check.due("clock(5, 1, 3)", x.clock(5, 1, 3), 600);
        Check.due("DRIFT and LIE are two", x.clock(5, 0, 0), 1007);
        x.wake(5, 0);
        x.off(5);
        Check.due("LIE stays when OFF", x.clock(5, 1, 0), 1003);
        Check.due("another NODE's", x.clock(4, 0, 0), 1000);
    }

    private static void effects() {
        SlotStart x = new SlotStart();
        x.clock(3, 0, -50);
        x.run(2);
        Check.due("a clock that is OFF stands", x.told(3, 5), 100000);
        x.wake(3, 500);
        x.run(3);
        Check.due("AT with DRIFT -50", x.told(3, 5), 100350);
        x.clock(3, 0, 50);
        x.run(1);
        Check.due("AT with DRIFT 50", x.told(3, 5), 100400);
        SlotStart y = Scenes.two();
        y.clock(0, 1, -400);
        y.bound(500);
        y.run(1);
        Check.due("LIE is SEEN by others", y.seen(1, 0), 99600);
        Check.due("LIE is not its own", y.seen(0, 1), 100000);
        Check.due("LIE moves no AT of its own", y.told(0, 5), 100000);
        Check.due("TRIM of -400 and 0 moves AT by -200, and RATE by -100", y.told(1, 5), 99700);
    }
}
