/** Terms 2, step (a): who SENDS, who gives a SIGN, and who gives way. */
final class Terms2aSendsTest {
    public static void main(String[] args) {
        firstTheSignThenTheTurn();
        theLeastSlotOfTwo();
        theLeastSlotOfThree();
        theLeastSlotOfSix();
        givingWayAtOnce();
        whoSendsNot();
        Check.end();
    }

    private static void firstTheSignThenTheTurn() {
        SlotStart x = new SlotStart();
        x.wake(0, 0);
        x.wake(5, 0);
        x.run(3);
        Check.due("AGE 0", x.told(0, 1), 0);
        x.run(1);
        Check.due("LEADING with AGE 0: it does not SEND", x.count(1), 0);
        Check.due("nor is it counted", x.told(0, 7), 0);
        Check.due("its SIGN is not HEARD", x.told(5, 9), 0);
        Check.due("its SIGN ends the QUIET", x.told(5, 2), 0);
        x.run(1);
        Check.due("LEADING with AGE 1: it SENDS", x.count(1), 1);
        Check.due("and is counted", x.told(0, 7), 1);
        Check.due("it is HEARD", x.told(5, 9), 1);
        Check.due("LEADING still", x.told(0, 0), 2);
        x.run(1);
        Check.due("LEADING with AGE 2: it SENDS", x.count(1), 1);
    }

    /** SLOTS that are one apart, at both ends, whatever the numbers of the NODES are. */
    private static void theLeastSlotOfTwo() {
        int[][] slots = {{1, 2}, {1, 7}, {7, 1}, {8, 9}, {9, 8}, {1, 9}, {9, 1}};
        for (int[] pair : slots) {
            SlotStart x = new SlotStart();
            Check.due("node(0, 1, " + pair[0] + ", 3)", x.node(0, 1, pair[0], 3), 1);
            Check.due("node(1, 1, " + pair[1] + ", 3)", x.node(1, 1, pair[1], 3), 2);
            x.wake(0, 0);
            x.wake(1, 0);
            x.run(5);
            boolean first = pair[0] < pair[1];
            String where = " with SLOTS " + pair[0] + ", " + pair[1];
            Check.due("count(1)" + where, x.count(1), first ? 1 : 2);
            Check.due("told(0, 0)" + where, x.told(0, 0), first ? 2 : 1);
            Check.due("told(1, 0)" + where, x.told(1, 0), first ? 1 : 2);
        }
    }

    /** NODE 1 gives way to NODE 2 only, NODE 0 to both: all at once. */
    private static void theLeastSlotOfThree() {
        SlotStart x = new SlotStart();
        x.node(0, 1, 9, 3);
        x.node(2, 1, 1, 3);
        for (int n = 0; n < 3; n++) {
            x.wake(n, 0);
        }
        x.run(4);
        Check.due("all give a SIGN", x.count(1), 0);
        for (int n = 0; n < 3; n++) {
            Check.due("told(" + n + ", 0)", x.told(n, 0), 2);
        }
        x.run(1);
        Check.due("count(1)", x.count(1), 4);
        Check.due("told(0, 0)", x.told(0, 0), 1);
        Check.due("told(1, 0)", x.told(1, 0), 1);
        Check.due("told(2, 0)", x.told(2, 0), 2);
        Check.due("told(0, 9)", x.told(0, 9), 1);
        Check.due("told(1, 9)", x.told(1, 9), 1);
    }

    private static void theLeastSlotOfSix() {
        SlotStart x = new SlotStart();
        for (int n = 3; n < 6; n++) {
            x.node(n, 1, n + 1, 3);
        }
        x.node(0, 1, 7, 3);
        x.node(4, 1, 1, 3);
        for (int n = 0; n < 6; n++) {
            x.wake(n, 0);
        }
        x.run(5);
        Check.due("count(1)", x.count(1), 16);
        for (int n = 0; n < 6; n++) {
            Check.due("told(" + n + ", 0)", x.told(n, 0), n == 4 ? 2 : 1);
            Check.due("told(" + n + ", 7)", x.told(n, 7), n == 4 ? 1 : 0);
        }
        Check.due("events: six LEADING, five LISTENING", x.event(-1, 0), 11);
    }

    /** It IS LISTENING in the same CYCLE: it HEARS, has a GUIDE and no QUIET, and it is an event of that CYCLE. */
    private static void givingWayAtOnce() {
        SlotStart x = new SlotStart();
        x.wake(0, 40);
        x.wake(1, 0);
        x.run(5);
        Check.due("IS", x.told(1, 0), 1);
        Check.due("AGE", x.told(1, 1), 0);
        Check.due("QUIET", x.told(1, 2), 0);
        Check.due("SENT", x.told(1, 7), 0);
        Check.due("GUIDE", x.told(1, 8), 0);
        Check.due("HEARD", x.told(1, 9), 1);
        Check.due("SEEN", x.seen(1, 0), 100040);
        Check.due("SEEN of it", x.seen(0, 1), SlotStart.NONE);
        Check.due("the CYCLE of the event", x.event(2, 0), 4);
        x.run(1);
        Check.due("it had that GUIDE in the CYCLE ahead", x.told(1, 0), 3);
    }

    private static void whoSendsNot() {
        SlotStart x = Scenes.onePassive();
        x.wake(4, 0);
        x.wake(2, 0);
        x.run(1);
        Check.due("ACTIVE ones SEND; PASSIVE, LISTENING, OFF ones do not", x.count(1), 3);
        x.run(1);
        Check.due("told(2, 0)", x.told(2, 0), 3);
        x.run(1);
        Check.due("a JOINING one SENDS at once", x.count(1) & 4, 4);
        SlotStart y = Scenes.onePassive();
        y.run(6);
        Check.due("count(3)", y.count(3), 8);
        y.run(1);
        Check.due("a HALTED one does not SEND", y.count(1), 3);
    }
}
