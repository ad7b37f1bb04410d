/** Promise 2: node. */
final class Promise02NodeTest {
    public static void main(String[] args) {
        refusals();
        allNumbers();
        edges();
        whatItHasAlready();
        states();
        effects();
        Check.end();
    }

    private static void refusals() {
        SlotStart x = new SlotStart();
        Check.due("node(-1, 1, 1, 1)", x.node(-1, 1, 1, 1), SlotStart.UNKNOWN);
        Check.due("node(6, 1, 1, 1)", x.node(6, 1, 1, 1), SlotStart.UNKNOWN);
        Check.due("node(6, 3, 10, 10)", x.node(6, 3, 10, 10), SlotStart.UNKNOWN);
        Check.due("node(0, 0, 1, 1)", x.node(0, 0, 1, 1), SlotStart.OUTSIDE);
        Check.due("node(0, 3, 1, 1)", x.node(0, 3, 1, 1), SlotStart.OUTSIDE);
        Check.due("node(0, 1, 0, 1)", x.node(0, 1, 0, 1), SlotStart.OUTSIDE);
        Check.due("node(0, 1, 10, 1)", x.node(0, 1, 10, 1), SlotStart.OUTSIDE);
        Check.due("node(0, 1, 1, 0)", x.node(0, 1, 1, 0), SlotStart.OUTSIDE);
        Check.due("node(0, 1, 1, 10)", x.node(0, 1, 1, 10), SlotStart.OUTSIDE);
        Check.due("node(0, 1, 2, 10) ahead of STATE", x.node(0, 1, 2, 10), SlotStart.OUTSIDE);
        for (int n = 1; n < 6; n++) {
            Check.due("node(0, 1, SLOT of " + n + ", 1)", x.node(0, 1, n + 1, 1), SlotStart.STATE);
        }
        x.wake(0, 0);
        x.run(2);
        Check.due("what is refused changes no KIND, WAIT", x.told(0, 0), 1);
        x.run(1);
        Check.due("what is refused changes no KIND, WAIT", x.told(0, 0), 2);
        x.off(0);
        Check.due("what is refused changes no SLOT", x.node(0, 1, 1, 1), 1);
    }

    /** Each number at and beyond its ends, with each of the others, for a new object. */
    private static void allNumbers() {
        for (int kind = -1; kind <= 4; kind++) {
            for (int slot = -1; slot <= 11; slot++) {
                for (int wait = -1; wait <= 11; wait++) {
                    boolean within = kind >= 1 && kind <= 2 && slot >= 1 && slot <= 9 && wait >= 1 && wait <= 9;
                    boolean taken = slot >= 1 && slot <= 6 && slot != 4;
                    int due = !within ? SlotStart.OUTSIDE : taken ? SlotStart.STATE : 4;
                    String call = "node(3, " + kind + ", " + slot + ", " + wait + ")";
                    Check.due(call, new SlotStart().node(3, kind, slot, wait), due);
                }
            }
        }
    }

    private static void whatItHasAlready() {
        Twins.Story story = x -> {
            x.wake(0, 5);
            x.run(4);
        };
        Twins.same("node with what it has", story, x -> {
            story.tell(x);
            Check.due("node(2, 1, 3, 3)", x.node(2, 1, 3, 3), 3);
            Check.due("node(5, 2, 6, 3)", x.node(5, 2, 6, 3), 6);
        });
        Twins.differ("another KIND", story, x -> {
            story.tell(x);
            x.node(2, 2, 3, 3);
        });
        Twins.differ("another SLOT", story, x -> {
            story.tell(x);
            x.node(2, 1, 7, 3);
        });
        Twins.differ("another WAIT", story, x -> {
            story.tell(x);
            x.node(2, 1, 3, 4);
        });
    }

    private static void edges() {
        SlotStart x = new SlotStart();
        Check.due("node(0, 2, 9, 9)", x.node(0, 2, 9, 9), 1);
        Check.due("node(5, 1, 1, 1)", x.node(5, 1, 1, 1), 6);
        Check.due("its own SLOT again", x.node(5, 2, 1, 1), 1);
        Check.due("a SLOT that was left", x.node(1, 1, 6, 3), 2);
        Check.due("node(0, 1, 9, 3)", x.node(0, 1, 9, 3), 9);
        Check.due("a SLOT that was taken", x.node(4, 1, 9, 3), SlotStart.STATE);
    }

    private static void states() {
        SlotStart x = new SlotStart();
        x.wake(0, 0);
        Check.due("node of a LISTENING one", x.node(0, 1, 1, 3), SlotStart.STATE);
        x.run(3);
        Check.due("node of a LEADING one", x.node(0, 1, 1, 3), SlotStart.STATE);
        x.off(0);
        Check.due("node of one that is OFF again", x.node(0, 1, 7, 3), 1);
        SlotStart j = new SlotStart();
        j.wake(0, 0);
        j.wake(1, 0);
        j.run(6);
        Check.due("told(1, 0)", j.told(1, 0), 3);
        Check.due("node of a JOINING one", j.node(1, 1, 2, 3), SlotStart.STATE);
        j.run(3);
        Check.due("told(1, 0)", j.told(1, 0), 4);
        Check.due("node of an ACTIVE one", j.node(1, 1, 2, 3), SlotStart.STATE);
        Check.due("node of a PASSIVE one", Scenes.onePassive().node(3, 2, 4, 3), SlotStart.STATE);
        SlotStart y = Scenes.twoHalted();
        Check.due("told(0, 0)", y.told(0, 0), 6);
        Check.due("node of a HALTED one", y.node(0, 1, 1, 3), SlotStart.STATE);
        y.off(0);
        Check.due("node of one that was HALTED", y.node(0, 1, 1, 3), 1);
    }

    private static void effects() {
        for (int wait = 1; wait <= 9; wait++) {
            SlotStart x = new SlotStart();
            x.node(4, 1, 5, wait);
            x.wake(4, 0);
            if (wait > 1) {
                x.run(wait - 1);
            }
            Check.due("told(4, 0) ahead of WAIT " + wait, x.told(4, 0), 1);
            x.run(1);
            Check.due("told(4, 0) behind WAIT " + wait, x.told(4, 0), 2);
        }
        SlotStart x = new SlotStart();
        x.node(0, 2, 1, 1);
        x.wake(0, 0);
        x.run(20);
        Check.due("a FOLLOWER does not lead", x.told(0, 0), 1);
        Check.due("a FOLLOWER counts QUIET", x.told(0, 2), 20);
        SlotStart y = new SlotStart();
        y.node(0, 1, 9, 3);
        y.wake(0, 0);
        y.wake(1, 0);
        y.run(5);
        Check.due("the lesser SLOT goes on", y.told(1, 0), 2);
        Check.due("the greater SLOT gives way", y.told(0, 0), 1);
        Check.due("its GUIDE", y.told(0, 8), 1);
    }
}
