import java.util.List;

/** Promise 16: restore. */
final class Promise16RestoreTest {
    public static void main(String[] args) {
        refusals();
        allIsAsItWas();
        eventsAndCounts();
        whatCannotBeToldIsAsItWas();
        twoStartersAhead();
        imagesStay();
        Check.end();
    }

    private static void refusals() {
        SlotStart x = new SlotStart();
        Check.due("restore(-1)", x.restore(-1), SlotStart.OUTSIDE);
        Check.due("restore(2)", x.restore(2), SlotStart.OUTSIDE);
        Check.due("restore(0)", x.restore(0), SlotStart.STATE);
        Check.due("restore(1)", x.restore(1), SlotStart.STATE);
        x.image(1);
        x.wake(2, 3);
        Check.due("restore(0)", x.restore(0), SlotStart.STATE);
        Check.due("refused: nothing changed", x.told(2, 0), 1);
        Check.due("restore(1)", x.restore(1), 1);
        Check.due("restored", x.told(2, 0), 0);
    }

    private static void allIsAsItWas() {
        SlotStart x = Scenes.three();
        x.clock(3, 0, 17);
        x.clock(1, 1, -25);
        x.bound(123);
        x.run(4);
        List<Integer> then = Dump.of(x);
        x.image(0);
        x.run(6);
        List<Integer> later = Dump.of(x);
        x.bound(3);
        x.clock(3, 0, 1);
        x.clock(1, 1, 2);
        x.off(0);
        x.node(0, 2, 9, 9);
        x.wake(0, 400);
        x.run(40);
        Check.due("restore(0)", x.restore(0), 1);
        Dump.same("as it was", Dump.of(x), then);
        x.run(6);
        Dump.same("and it goes on as it did", Dump.of(x), later);
        x.restore(0);
        Check.due("DRIFT", x.clock(3, 0, 0), 1017);
        Check.due("LIE", x.clock(1, 1, 0), 975);
        Check.due("off(0)", x.off(0), 4);
        Check.due("SLOT", x.node(0, 1, 9, 3), 1);
    }

    private static void eventsAndCounts() {
        SlotStart x = Scenes.onePassive();
        x.run(4);
        List<Integer> then = Dump.of(x);
        Check.due("BAD", x.told(3, 4), 2);
        x.image(0);
        x.run(2);
        Check.due("HALTED", x.told(3, 0), 6);
        x.off(0);
        x.off(1);
        x.off(3);
        x.wake(2, 0);
        for (int i = 0; i < 5; i++) {
            x.run(50);
        }
        Check.due("events", x.event(-1, 0), 40);
        x.restore(0);
        Dump.same("as it was", Dump.of(x), then);
        x.run(2);
        Check.due("HALTED", x.told(3, 0), 6);
        x.restore(0);
        x.bound(500);
        x.run(2);
        Check.due("GOOD", x.told(3, 3), 1);
    }

    /** NODE 3 HEARD two STARTERS in CYCLE 6. */
    private static void twoStartersAhead() {
        SlotStart x = new SlotStart();
        x.wake(0, 0);
        x.wake(1, 0);
        x.wake(3, 0);
        x.run(7);
        x.image(0);
        x.off(0);
        x.off(1);
        x.run(3);
        x.restore(0);
        x.run(1);
        Check.due("told(3, 0)", x.told(3, 0), 4);
    }

    /** KIND and WAIT, and what was HEARD and SEEN in the CYCLE ahead. */
    private static void whatCannotBeToldIsAsItWas() {
        SlotStart x = new SlotStart();
        x.node(3, 1, 4, 7);
        x.image(0);
        x.node(3, 2, 4, 1);
        x.restore(0);
        x.wake(3, 0);
        x.run(6);
        Check.due("WAIT", x.told(3, 0), 1);
        x.run(1);
        Check.due("KIND", x.told(3, 0), 2);
        SlotStart y = new SlotStart();
        y.wake(0, 0);
        y.wake(1, 0);
        y.run(5);
        y.image(1);
        y.run(20);
        y.restore(1);
        y.run(1);
        Check.due("the GUIDE was the same one in the CYCLE ahead", y.told(1, 0), 3);
        SlotStart z = Scenes.two();
        z.bound(500);
        z.run(2);
        z.image(0);
        z.clock(1, 1, 400);
        z.run(2);
        z.restore(0);
        z.clock(1, 0, 50);
        z.run(1);
        Check.due("RATE by the moves since the CYCLE ahead", z.told(0, 6), 1000);
    }

    private static void imagesStay() {
        SlotStart x = new SlotStart();
        x.image(0);
        x.wake(0, 0);
        x.image(1);
        Check.due("restore(0)", x.restore(0), 1);
        Check.due("IMAGES are not restored", x.count(5), 3);
        Check.due("restore(1)", x.restore(1), 1);
        Check.due("told(0, 0)", x.told(0, 0), 1);
        x.run(9);
        Check.due("the IMAGE stays", x.restore(1), 1);
        Check.due("told(0, 1)", x.told(0, 1), 0);
        x.run(9);
        Check.due("the IMAGE stays", x.restore(1), 1);
        Check.due("told(0, 1)", x.told(0, 1), 0);
    }
}
