/** An object is good for 512 calls: the last ones are answered as the first ones, however far things went. */
final class LongUseTest {
    private static final int CALLS = 512, CYCLES = 50;

    public static void main(String[] args) {
        farBelowZero();
        farAbove();
        farApart();
        Check.end();
    }

    /** A FOLLOWER alone, with the greatest DRIFT, for as many CYCLES as can be: answers may be below 0 then. */
    private static void farBelowZero() {
        SlotStart x = new SlotStart();
        x.clock(3, 0, -50);
        x.wake(3, -500);
        int cycles = many(x, CALLS - 2 - 5);
        Check.due("count(0)", x.count(0), cycles);
        Check.due("AT", x.told(3, 5), 100000 - 500 - 50 * cycles);
        Check.due("QUIET", x.told(3, 2), cycles);
        Check.due("AGE", x.told(3, 1), cycles);
        Check.due("the 512th call", x.told(0, 1), cycles);
    }

    private static int many(SlotStart x, int calls) {
        for (int i = 0; i < calls; i++) {
            x.run(CYCLES);
        }
        return calls * CYCLES;
    }

    /** Two that gain 50 ticks a CYCLE, and stay together. */
    private static void farAbove() {
        SlotStart x = new SlotStart();
        x.clock(0, 0, 50);
        x.clock(1, 0, 50);
        x.wake(0, 0);
        x.wake(1, 0);
        int cycles = many(x, CALLS - 4 - 6);
        Check.due("count(2)", x.count(2), 3);
        Check.due("AT", x.told(0, 5), 100000 + 50 * cycles);
        Check.due("spread()", x.spread(), 0);
        Check.due("SENT", x.told(0, 7), cycles - 4);
        Check.due("soon()", x.soon(), 0);
        Check.due("the 512th call", x.run(1), 3);
    }

    /**
     * NODE 0 goes to one side, NODE 3 to the other. NODE 0 leads in turns of 11 CYCLES, and SENDS in the fifth to the
     * last of them; the last of 25250 CYCLES is the fifth of its turn.
     */
    private static void farApart() {
        SlotStart x = new SlotStart();
        x.clock(0, 0, 50);
        x.clock(3, 0, -50);
        x.wake(0, 0);
        x.wake(3, 0);
        int cycles = many(x, CALLS - 4 - 3);
        Check.due("the place of the last CYCLE in its turn", (cycles - 1) % 11, 4);
        Check.due("seen(3, 0)", x.seen(3, 0), 100000 + 100 * (cycles - 1));
        Check.due("event(39, 0)", x.event(39, 0), cycles - 3);
        Check.due("the 512th call", x.event(39, 2), 2);
    }
}
