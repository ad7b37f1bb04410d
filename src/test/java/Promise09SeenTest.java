/** Promise 9: seen. */
final class Promise09SeenTest {
    public static void main(String[] args) {
        SlotStart x = new SlotStart();
        Check.due("seen(-1, 0)", x.seen(-1, 0), SlotStart.UNKNOWN);
        Check.due("seen(0, -1)", x.seen(0, -1), SlotStart.UNKNOWN);
        Check.due("seen(6, 0)", x.seen(6, 0), SlotStart.UNKNOWN);
        Check.due("seen(0, 6)", x.seen(0, 6), SlotStart.UNKNOWN);
        Check.due("seen(6, 6)", x.seen(6, 6), SlotStart.UNKNOWN);
        Check.due("seen(5, 5)", x.seen(5, 5), SlotStart.OUTSIDE);
        x.wake(0, 100);
        x.wake(3, -300);
        x.wake(4, 50);
        x.clock(0, 1, -20);
        x.clock(3, 1, 400);
        x.run(4);
        Check.due("a SIGN is not SEEN", x.seen(3, 0), SlotStart.NONE);
        x.run(1);
        Check.due("seen(3, 0)", x.seen(3, 0), 100380);
        Check.due("seen(4, 0)", x.seen(4, 0), 100030);
        Check.due("of one that does not SEND", x.seen(0, 3), SlotStart.NONE);
        Check.due("of one that does not SEND", x.seen(4, 3), SlotStart.NONE);
        Check.due("by one that is OFF", x.seen(5, 0), SlotStart.NONE);
        x.clock(0, 1, 0);
        x.wake(5, 0);
        Check.due("as it was in the last CYCLE", x.seen(3, 0), 100380);
        Check.due("as it was in the last CYCLE", x.seen(5, 0), SlotStart.NONE);
        x.off(0);
        Check.due("as it was in the last CYCLE", x.seen(3, 0), 100380);
        x.run(1);
        Check.due("of one that is OFF", x.seen(3, 0), SlotStart.NONE);
        aheadOfTrim();
        Check.end();
    }

    /** What is SEEN is told as it was ahead of the corrections of that CYCLE. */
    private static void aheadOfTrim() {
        SlotStart x = Scenes.two();
        x.clock(1, 0, 10);
        x.run(3);
        Check.due("seen(0, 1)", x.seen(0, 1), 100020);
        Check.due("seen(1, 0)", x.seen(1, 0), 99980);
    }
}
