/** Terms 1: what NODES have at first, CYCLES from 0 on, AGE, and what is 0 as a NODE comes to be something else. */
final class Terms1NodesTest {
    public static void main(String[] args) {
        nodesAreZeroToFive();
        slotsAtFirst();
        cyclesAreNumberedFromZero();
        ages();
        leadingBeginsWithZeros();
        listeningBeginsWithZeros();
        joiningBeginsWithZeros();
        passiveBeginsWithZeros();
        haltedBeginsWithZeros();
        activeBeginsWithZeros();
        offBeginsWithZeros();
        clocksStayAsTheyWere();
        Check.end();
    }

    /** AGE, QUIET, GOOD, BAD. */
    private static void zeros(String where, SlotStart x, int node, int is) {
        Check.due(where + ": IS", x.told(node, 0), is);
        for (int what = 1; what < 5; what++) {
            Check.due(where + ": told(" + node + ", " + what + ")", x.told(node, what), 0);
        }
    }

    private static void nodesAreZeroToFive() {
        SlotStart x = new SlotStart();
        for (int n = 0; n < 6; n++) {
            Check.due("told(" + n + ", 0)", x.told(n, 0), 0);
        }
        Check.due("told(-1, 0)", x.told(-1, 0), SlotStart.UNKNOWN);
        Check.due("told(6, 0)", x.told(6, 0), SlotStart.UNKNOWN);
    }

    /** Six of nine are taken: for each NODE its own and 7, 8, 9 are free. */
    private static void slotsAtFirst() {
        for (int n = 0; n < 6; n++) {
            for (int slot = 1; slot <= 9; slot++) {
                boolean free = slot > 6 || slot == n + 1;
                int due = free ? n + 1 : SlotStart.STATE;
                Check.due("node(" + n + ", 1, " + slot + ", 3)", new SlotStart().node(n, 1, slot, 3), due);
            }
        }
    }

    /** With WAIT 1 a NODE IS LEADING by CYCLE 0; the first odd CYCLE is 1. */
    private static void cyclesAreNumberedFromZero() {
        SlotStart x = new SlotStart();
        x.node(0, 1, 1, 1);
        x.wake(0, 0);
        Check.due("count(0) of none", x.count(0), 0);
        x.run(1);
        Check.due("count(0) of one", x.count(0), 1);
        Check.due("told(0, 0)", x.told(0, 0), 2);
        Check.due("event(-1, 0)", x.event(-1, 0), 1);
        Check.due("event(0, 0)", x.event(0, 0), 0);
        Check.due("event(0, 2)", x.event(0, 2), 2);
    }

    private static void ages() {
        SlotStart x = new SlotStart();
        Check.due("AGE at first", x.told(0, 1), 0);
        x.run(1);
        Check.due("AGE of one that is OFF behind 1", x.told(0, 1), 1);
        x.run(50);
        Check.due("AGE of one that is OFF behind 51", x.told(0, 1), 51);
        x.wake(0, 0);
        Check.due("AGE of one that is woken", x.told(0, 1), 0);
        x.run(1);
        Check.due("AGE of one that is LISTENING", x.told(0, 1), 1);
        x.run(2);
        Check.due("AGE at the end of the CYCLE in which it IS LEADING", x.told(0, 1), 0);
        x.run(1);
        Check.due("AGE at the end of the next", x.told(0, 1), 1);
    }

    private static void leadingBeginsWithZeros() {
        SlotStart x = new SlotStart();
        x.wake(0, 0);
        x.run(2);
        Check.due("QUIET ahead", x.told(0, 2), 2);
        Check.due("AGE ahead", x.told(0, 1), 2);
        x.run(1);
        zeros("LEADING", x, 0, 2);
    }

    /** By giving up in CYCLE 10, by (a) in CYCLE 4, and by HEARING no STARTER any more. */
    private static void listeningBeginsWithZeros() {
        SlotStart x = new SlotStart();
        x.wake(0, 0);
        x.run(10);
        Check.due("AGE ahead", x.told(0, 1), 7);
        x.run(1);
        zeros("LISTENING again", x, 0, 1);
        SlotStart y = new SlotStart();
        y.wake(0, 0);
        y.wake(1, 0);
        y.run(4);
        Check.due("AGE ahead", y.told(1, 1), 1);
        y.run(1);
        zeros("LISTENING since (a)", y, 1, 1);
        y.run(3);
        Check.due("AGE ahead", y.told(1, 1), 2);
        y.off(0);
        y.run(1);
        zeros("LISTENING, not JOINING", y, 1, 1);
    }

    private static void joiningBeginsWithZeros() {
        SlotStart x = new SlotStart();
        x.node(1, 1, 2, 9);
        x.wake(0, 0);
        x.wake(1, 0);
        x.run(5);
        Check.due("AGE ahead", x.told(1, 1), 5);
        x.run(1);
        zeros("JOINING", x, 1, 3);
    }

    /** NODE 3 has GOOD 1 behind CYCLE 9 and AGE 3 behind CYCLE 10. */
    private static void passiveBeginsWithZeros() {
        SlotStart x = Scenes.three();
        x.bound(20);
        x.clock(3, 0, 50);
        x.run(2);
        Check.due("GOOD ahead", x.told(3, 3), 1);
        Check.due("AGE ahead", x.told(3, 1), 3);
        x.run(1);
        zeros("PASSIVE", x, 3, 5);
        Check.due("the NODE beside it keeps GOOD", x.told(0, 3), 3);
    }

    private static void haltedBeginsWithZeros() {
        SlotStart x = Scenes.onePassive();
        x.run(5);
        Check.due("BAD ahead", x.told(3, 4), 2);
        Check.due("AGE ahead", x.told(3, 1), 5);
        x.run(1);
        zeros("HALTED", x, 3, 6);
        x.run(3);
        Check.due("AGE of one that is HALTED", x.told(3, 1), 3);
        x.wake(3, 0);
        zeros("woken", x, 3, 1);
    }

    private static void activeBeginsWithZeros() {
        SlotStart x = Scenes.onePassive();
        x.bound(500);
        x.run(3);
        Check.due("GOOD ahead", x.told(3, 3), 1);
        Check.due("AGE ahead", x.told(3, 1), 3);
        x.run(1);
        zeros("ACTIVE again", x, 3, 4);
        SlotStart y = new SlotStart();
        y.wake(0, 0);
        y.wake(1, 0);
        y.run(6);
        Check.due("AGE of the LEADING one ahead", y.told(0, 1), 3);
        y.run(1);
        zeros("ACTIVE, not LEADING", y, 0, 4);
    }

    private static void offBeginsWithZeros() {
        SlotStart x = new SlotStart();
        x.wake(5, 9);
        x.run(7);
        Check.due("QUIET ahead", x.told(5, 2), 7);
        x.off(5);
        zeros("OFF, not LISTENING", x, 5, 0);
        SlotStart y = Scenes.two();
        y.run(2);
        Check.due("GOOD ahead", y.told(0, 3), 2);
        y.off(0);
        zeros("OFF, not ACTIVE", y, 0, 0);
        SlotStart z = new SlotStart();
        z.run(4);
        Check.due("AGE ahead", z.told(2, 1), 4);
        z.off(2);
        zeros("OFF, as it was", z, 2, 0);
    }

    /** AT and RATE are not among what is 0: a JOINING one that IS LISTENING again goes on with its RATE. */
    private static void clocksStayAsTheyWere() {
        SlotStart x = new SlotStart();
        x.clock(0, 0, 10);
        x.clock(1, 0, -30);
        x.node(1, 1, 2, 9);
        x.wake(0, 0);
        x.wake(1, 0);
        x.run(6);
        Check.due("RATE of a JOINING one", x.told(1, 6), 1040);
        Check.due("AT of a JOINING one", x.told(1, 5), 100060);
        x.off(0);
        x.run(1);
        Check.due("LISTENING again", x.told(1, 0), 1);
        Check.due("its RATE", x.told(1, 6), 1040);
        Check.due("its AT", x.told(1, 5), 100070);
        x.run(10);
        Check.due("LEADING then", x.told(1, 0), 2);
        Check.due("its RATE", x.told(1, 6), 1040);
        Check.due("its AT", x.told(1, 5), 100170);
    }
}
