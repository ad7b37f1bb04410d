/** Promise 16: restore. */
final class Promise16RestoreTest {
    public static void main(String[] args) {
        refusals();
        allIsAsItWas();
        countsGoOn();
        fullEvents();
        whatCannotBeToldIsAsItWas();
        twoStartersAhead();
        imagesStay();
        Check.end();
    }

    private static void refusals() {
        SlotStart x = new SlotStart();
        Check.due("restore(-1)", x.restore(-1), SlotStart.OUTSIDE);
        Check.due("restore(2)", x.restore(2), SlotStart.OUTSIDE);
        Check.due("restore(0)", x.restore(0), SlotStart.STATE);
        Check.due("restore(1)", x.restore(1), SlotStart.STATE);
        x.image(1);
        x.wake(2, 3);
        Check.due("restore(0)", x.restore(0), SlotStart.STATE);
        Check.due("refused: nothing changed", x.told(2, 0), 1);
        Check.due("restore(1)", x.restore(1), 1);
        Check.due("restored", x.told(2, 0), 0);
    }

    /** Whatever came between: the same story without it comes to the same. */
    private static void allIsAsItWas() {
        Twins.Story[] between = {x -> { }, x -> x.run(1), Promise16RestoreTest::much, Promise16RestoreTest::manyEvents};
        for (int k = 0; k < 2; k++) {
            for (int i = 0; i < between.length; i++) {
                int image = k;
                Twins.Story story = between[i];
                Twins.same("restore(" + k + "), " + i, x -> {
                    begin(x);
                    x.image(image);
                }, x -> {
                    begin(x);
                    x.image(image);
                    story.tell(x);
                    Check.due("restore(" + image + ")", x.restore(image), 1);
                });
            }
        }
        Twins.differ("what came between matters", Promise16RestoreTest::begin, x -> {
            begin(x);
            much(x);
        });
    }

    private static void begin(SlotStart x) {
        x.node(5, 1, 9, 2);
        x.wake(0, 0);
        x.wake(1, 0);
        x.wake(3, 0);
        x.run(9);
        x.clock(3, 0, 17);
        x.clock(1, 1, -25);
        x.bound(123);
        x.run(4);
    }

    private static void much(SlotStart x) {
        x.run(6);
        x.bound(3);
        x.clock(3, 0, 1);
        x.clock(1, 1, 2);
        x.off(0);
        x.node(0, 2, 7, 9);
        x.wake(0, 400);
        x.node(5, 2, 6, 7);
        x.node(2, 2, 9, 9);
        x.run(40);
    }

    private static void manyEvents(SlotStart x) {
        x.off(0);
        x.off(1);
        x.off(3);
        x.wake(2, 0);
        for (int i = 0; i < 5; i++) {
            x.run(50);
        }
        Check.due("events", x.event(-1, 0), 40);
    }

    /** BAD 2 of NODE 3: one more, and it is HALTED; one GOOD, and it is not. */
    private static void countsGoOn() {
        SlotStart x = Scenes.onePassive();
        x.run(4);
        Check.due("BAD", x.told(3, 4), 2);
        x.image(0);
        x.run(2);
        Check.due("HALTED", x.told(3, 0), 6);
        x.restore(0);
        Check.due("BAD", x.told(3, 4), 2);
        x.run(2);
        Check.due("HALTED", x.told(3, 0), 6);
        x.restore(0);
        x.bound(500);
        x.run(2);
        Check.due("GOOD", x.told(3, 3), 1);
    }

    /** The ring of 40 events is full, and its oldest one is not the first of all. */
    private static void fullEvents() {
        SlotStart x = new SlotStart();
        x.wake(1, 0);
        for (int i = 0; i < 5; i++) {
            x.run(50);
        }
        int oldest = x.event(0, 0);
        int newest = x.event(39, 0);
        Check.due("some are gone", oldest > 2 ? 1 : 0, 1);
        x.image(1);
        x.run(50);
        Check.due("the oldest is another", x.event(0, 0) > oldest ? 1 : 0, 1);
        x.restore(1);
        Check.due("how many", x.event(-1, 0), 40);
        Check.due("the oldest", x.event(0, 0), oldest);
        Check.due("the newest", x.event(39, 0), newest);
        x.run(50);
        x.restore(1);
        Check.due("the oldest, again", x.event(0, 0), oldest);
    }

    /** NODE 3 HEARD two STARTERS in CYCLE 6. */
    private static void twoStartersAhead() {
        SlotStart x = new SlotStart();
        x.wake(0, 0);
        x.wake(1, 0);
        x.wake(3, 0);
        x.run(7);
        x.image(0);
        x.off(0);
        x.off(1);
        x.run(3);
        x.restore(0);
        x.run(1);
        Check.due("told(3, 0)", x.told(3, 0), 4);
    }

    /** KIND and WAIT, and what was HEARD and SEEN in the CYCLE ahead. */
    private static void whatCannotBeToldIsAsItWas() {
        SlotStart x = new SlotStart();
        x.node(3, 1, 4, 7);
        x.image(0);
        x.node(3, 2, 4, 1);
        x.restore(0);
        x.wake(3, 0);
        x.run(6);
        Check.due("WAIT", x.told(3, 0), 1);
        x.run(1);
        Check.due("KIND", x.told(3, 0), 2);
        SlotStart y = new SlotStart();
        y.wake(0, 0);
        y.wake(1, 0);
        y.run(5);
        y.image(1);
        y.run(20);
        y.restore(1);
        y.run(1);
        Check.due("the GUIDE was the same one in the CYCLE ahead", y.told(1, 0), 3);
        SlotStart z = Scenes.two();
        z.bound(500);
        z.run(2);
        z.image(0);
        z.clock(1, 1, 400);
        z.run(2);
        z.restore(0);
        z.clock(1, 0, 50);
        z.run(1);
        Check.due("RATE by the moves since the CYCLE ahead", z.told(0, 6), 1000);
    }

    private static void imagesStay() {
        SlotStart x = new SlotStart();
        x.image(0);
        x.wake(0, 0);
        x.image(1);
        Check.due("restore(0)", x.restore(0), 1);
        Check.due("IMAGES are not restored", x.count(5), 3);
        Check.due("restore(1)", x.restore(1), 1);
        Check.due("told(0, 0)", x.told(0, 0), 1);
        x.run(9);
        Check.due("the IMAGE stays", x.restore(1), 1);
        Check.due("told(0, 1)", x.told(0, 1), 0);
        x.run(9);
        Check.due("the IMAGE stays", x.restore(1), 1);
        Check.due("told(0, 1)", x.told(0, 1), 0);
    }
}
