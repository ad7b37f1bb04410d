/** Objects that tests begin with. */
final class Scenes {
    private Scenes() {
    }

    /** NODES 0 and 1 are ACTIVE since the CYCLES 6 and 8, with AT 0 and RATE 0; the next CYCLE is 9. */
    static SlotStart two() {
        SlotStart x = new SlotStart();
        x.wake(0, 0);
        x.wake(1, 0);
        x.run(9);
        return x;
    }

    /** As two(), and NODE 3 is ACTIVE, too, since CYCLE 7. */
    static SlotStart three() {
        SlotStart x = new SlotStart();
        x.wake(0, 0);
        x.wake(1, 0);
        x.wake(3, 0);
        x.run(9);
        return x;
    }

    /** All six are ACTIVE, with AT 0 and RATE 0; the next CYCLE is 9. */
    static SlotStart six() {
        SlotStart x = new SlotStart();
        for (int n = 0; n < 6; n++) {
            x.wake(n, 0);
        }
        x.run(9);
        return x;
    }

    /** As three(), but the next CYCLE is 12 and NODE 3 IS PASSIVE since CYCLE 11, with AT 150 and RATE 0. */
    static SlotStart onePassive() {
        SlotStart x = three();
        x.bound(20);
        x.clock(3, 0, 50);
        x.run(3);
        return x;
    }

    /** NODES 0 and 1 are HALTED since CYCLE 17, the next CYCLE is 18. */
    static SlotStart twoHalted() {
        SlotStart x = two();
        x.bound(0);
        x.clock(1, 0, 40);
        x.run(9);
        return x;
    }
}
