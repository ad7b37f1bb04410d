/** Promise 11: event. */
final class Promise11EventTest {
    public static void main(String[] args) {
        SlotStart x = new SlotStart();
        Check.due("event(0, -1)", x.event(0, -1), SlotStart.OUTSIDE);
        Check.due("event(0, 3)", x.event(0, 3), SlotStart.OUTSIDE);
        Check.due("event(-1, 3)", x.event(-1, 3), SlotStart.OUTSIDE);
        Check.due("event(-9, 3)", x.event(-9, 3), SlotStart.OUTSIDE);
        for (int what = 0; what < 3; what++) {
            Check.due("event(-1, " + what + ")", x.event(-1, what), 0);
            Check.due("event(0, " + what + ")", x.event(0, what), SlotStart.NONE);
            Check.due("event(-2, " + what + ")", x.event(-2, what), SlotStart.NONE);
        }
        Check.due("event of the least i", x.event(Integer.MIN_VALUE, 0), SlotStart.NONE);
        Check.due("event of the greatest i", x.event(Integer.MAX_VALUE, 0), SlotStart.NONE);
        inOrder();
        ofOneCycleByNodes();
        bothEnds();
        lastForty();
        afterRestore();
        Check.end();
    }

    private static void inOrder() {
        SlotStart x = new SlotStart();
        x.wake(2, 0);
        x.wake(1, 0);
        x.wake(0, 0);
        x.wake(4, 0);
        x.run(9);
        int[][] due = {
            {2, 0, 2}, {2, 1, 2}, {2, 2, 2}, {4, 1, 1}, {4, 2, 1}, {5, 1, 3}, {5, 2, 3}, {6, 0, 4}, {7, 4, 4},
            {8, 1, 4}, {8, 2, 4}};
        Check.due("event(-1, 0)", x.event(-1, 0), due.length);
        for (int i = 0; i < due.length; i++) {
            for (int what = 0; what < 3; what++) {
                Check.due("event(" + i + ", " + what + ")", x.event(i, what), due[i][what]);
            }
        }
        Check.due("event(11, 0)", x.event(11, 0), SlotStart.NONE);
        x.off(0);
        x.wake(0, 0);
        Check.due("calls make no events", x.event(-1, 0), due.length);
        SlotStart y = Scenes.twoHalted();
        int last = y.event(-1, 1) - 1;
        Check.due("event of HALTED", y.event(last, 0), 17);
        Check.due("event of HALTED", y.event(last, 1), 1);
        Check.due("event of HALTED", y.event(last, 2), 6);
        Check.due("event of PASSIVE", y.event(last - 2, 0), 11);
        Check.due("event of PASSIVE", y.event(last - 2, 2), 5);
    }

    /**
     * In CYCLE 15 NODE 2 gives way, which is in step (a), and NODE 0 IS HALTED, which is in step (c): NODE 0 is told
     * first all the same. NODE 0 is alone from CYCLE 9 on, NODES 1 and 2 give their SIGN in CYCLE 14.
     */
    private static void ofOneCycleByNodes() {
        SlotStart x = Scenes.two();
        x.off(1);
        x.run(2);
        x.wake(1, 500);
        x.wake(2, 500);
        x.run(5);
        int[][] due = {{9, 0, 5}, {13, 1, 2}, {13, 2, 2}, {15, 0, 6}, {15, 2, 1}};
        int first = x.event(-1, 0) - due.length;
        Check.due("those of two()", first, 6);
        for (int i = 0; i < due.length; i++) {
            for (int what = 0; what < 3; what++) {
                Check.due("event " + i + ", " + what, x.event(first + i, what), due[i][what]);
            }
        }
    }

    private static void bothEnds() {
        SlotStart x = new SlotStart();
        x.wake(0, 0);
        x.run(2);
        Check.due("none yet", x.event(-1, 0), 0);
        Check.due("event(0, 1)", x.event(0, 1), SlotStart.NONE);
        x.run(1);
        for (int what = 0; what < 3; what++) {
            Check.due("one", x.event(-1, what), 1);
            Check.due("event(1, " + what + ")", x.event(1, what), SlotStart.NONE);
            Check.due("event(-2, " + what + ")", x.event(-2, what), SlotStart.NONE);
            Check.due("event(least, " + what + ")", x.event(Integer.MIN_VALUE, what), SlotStart.NONE);
            Check.due("event(most, " + what + ")", x.event(Integer.MAX_VALUE, what), SlotStart.NONE);
        }
        Check.due("event(0, 0)", x.event(0, 0), 2);
        Check.due("event(0, 1)", x.event(0, 1), 0);
        Check.due("event(0, 2)", x.event(0, 2), 2);
        Check.due("event(-2, 3)", x.event(-2, 3), SlotStart.OUTSIDE);
        Check.due("event(9, -1)", x.event(9, -1), SlotStart.OUTSIDE);
        Check.due("event(-1, -1)", x.event(-1, -1), SlotStart.OUTSIDE);
    }

    /** Events are among what is kept, and they are not made by soon and bears. */
    private static void afterRestore() {
        SlotStart x = Scenes.two();
        x.image(0);
        Check.due("event(-1, 0)", x.event(-1, 0), 6);
        x.off(1);
        x.run(20);
        Check.due("two more", x.event(-1, 0), 8);
        x.restore(0);
        Check.due("as it was", x.event(-1, 0), 6);
        Check.due("event(6, 0)", x.event(6, 0), SlotStart.NONE);
        x.off(1);
        x.soon();
        x.bears(4, 40, 0);
        Check.due("as it was", x.event(-1, 0), 6);
    }

    /** A lone STARTER IS LEADING behind the CYCLES 2, 13, 24.., LISTENING behind 10, 21, 32... */
    private static void lastForty() {
        SlotStart x = new SlotStart();
        x.wake(1, 0);
        for (int i = 0; i < 4; i++) {
            x.run(50);
        }
        x.run(19);
        Check.due("event(-1, 0) behind 219", x.event(-1, 0), 39);
        x.run(1);
        Check.due("event(-1, 0) behind 220", x.event(-1, 0), 40);
        Check.due("event(0, 0) behind 220", x.event(0, 0), 2);
        x.run(3);
        Check.due("event(-1, 0) behind 223", x.event(-1, 0), 40);
        Check.due("event(0, 0) behind 223", x.event(0, 0), 10);
        Check.due("event(39, 0) behind 223", x.event(39, 0), 222);
        x.run(50);
        x.run(27);
        Check.due("event(-1, 0) behind 300", x.event(-1, 0), 40);
        for (int i = 0; i < 40; i++) {
            int k = 15 + i;
            boolean leads = k % 2 == 0;
            Check.due("event(" + i + ", 0)", x.event(i, 0), (leads ? 2 : 10) + 11 * (k / 2));
            Check.due("event(" + i + ", 1)", x.event(i, 1), 1);
            Check.due("event(" + i + ", 2)", x.event(i, 2), leads ? 2 : 1);
        }
        Check.due("event(40, 0)", x.event(40, 0), SlotStart.NONE);
    }
}
