/** Objects that tests begin with. */
final class Scenes {
    private Scenes() {
    }

    /** NODES 0 and 1 are ACTIVE since the CYCLES 6 and 8, with AT 0 and RATE 0; the next CYCLE is 9. */
    static SlotStart two() {
        SlotStart x = new SlotStart();
        x.wake(0, 0);
        x.wake(1, 0);
        x.run(9);
        return x;
    }

    /** As two(), and NODE 3 is ACTIVE, too, since CYCLE 7. */
    static SlotStart three() {
        SlotStart x = new SlotStart();
        x.wake(0, 0);
        x.wake(1, 0);
        x.wake(3, 0);
        x.run(9);
        return x;
    }

    /** All six are ACTIVE, with AT 0 and RATE 0; the next CYCLE is 9. */
    static SlotStart six() {
        SlotStart x = new SlotStart();
        for (int n = 0; n < 6; n++) {
            x.wake(n, 0);
        }
        x.run(9);
        return x;
    }

    /** As three(), but the next CYCLE is 12 and NODE 3 IS PASSIVE since CYCLE 11, with AT 150 and RATE 0. */
    static SlotStart onePassive() {
        SlotStart x = three();
        x.bound(20);
        x.clock(3, 0, 50);
        x.run(3);
        return x;
    }

    /** NODES 0 and 1 are HALTED since CYCLE 17, the next CYCLE is 18. */
    static SlotStart twoHalted() {
        SlotStart x = two();
        x.bound(0);
        x.clock(1, 0, 40);
        x.run(9);
        return x;
    }

    /**
     * NODES 0, 1, 2, 3, 5 are awake, 4 is OFF; four of them lie so that they fall silent and come back in turns. All
     * five are ACTIVE behind 243 CYCLES more first.
     */
    static SlotStart slow() {
        SlotStart x = new SlotStart();
        x.node(1, 2, 2, 3);
        x.clock(1, 1, 250);
        x.clock(2, 1, -35);
        x.clock(3, 1, -400);
        x.clock(5, 1, 300);
        x.wake(2, 100);
        x.wake(5, 50);
        x.run(5);
        x.wake(0, 0);
        x.wake(1, 0);
        x.wake(3, 0);
        return x;
    }

    /**
     * As two(), but the next CYCLE is 11, and in it both see the other one so far off that they go apart: behind it
     * they are 300 ticks and half of both lies apart, and behind CYCLE 12 300 more.
     */
    static SlotStart goingApart(int lie, int otherLie) {
        SlotStart x = two();
        x.bound(500);
        x.run(2);
        x.clock(1, 1, lie);
        x.clock(0, 1, -otherLie);
        x.clock(0, 0, 50);
        x.clock(1, 0, -50);
        return x;
    }
}
