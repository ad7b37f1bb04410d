import java.util.ArrayList;
import java.util.List;

/**
 * Whether two objects are alike in all that a caller can ever learn of them. A look asks much and may change what it
 * looks at, so each look has new objects, made by telling the same story again; no object is used for more than the
 * 512 calls of the document.
 */
final class Twins {
    /** Calls on a new object. */
    interface Story {
        void tell(SlotStart x);
    }

    private static final int LOOKS = 9;

    private Twins() {
    }

    static void same(String what, Story one, Story other) {
        for (int look = 0; look < LOOKS; look++) {
            boolean alike = answers(one, look).equals(answers(other, look));
            Check.due(what + ", look " + look, alike ? 1 : 0, 1);
        }
    }

    /** That two stories do not come to the same: else a test that they do would show nothing. */
    static void differ(String what, Story one, Story other) {
        boolean alike = true;
        for (int look = 0; look < LOOKS; look++) {
            alike &= answers(one, look).equals(answers(other, look));
        }
        Check.due(what + ": alike", alike ? 1 : 0, 0);
    }

    private static List<Integer> answers(Story story, int look) {
        SlotStart x = new SlotStart();
        story.tell(x);
        List<Integer> all = new ArrayList<>();
        switch (look) {
            case 0: asItIs(x, all); break;
            case 1: asItGoesOn(x, all); break;
            case 2: clocksAndWhatMayCome(x, all); break;
            case 3: slots(x, all); break;
            case 4: kindsAndWaits(x, all); break;
            case 5: all.add(x.restore(0)); asItIs(x, all); break;
            case 6: all.add(x.restore(0)); asItGoesOn(x, all); break;
            case 7: all.add(x.restore(1)); asItIs(x, all); break;
            default: all.add(x.restore(1)); asItGoesOn(x, all); break;
        }
        return all;
    }

    private static void asItIs(SlotStart x, List<Integer> all) {
        for (int n = 0; n < 6; n++) {
            for (int what = 0; what < 10; what++) {
                all.add(x.told(n, what));
            }
            for (int other = 0; other < 6; other++) {
                all.add(x.seen(n, other));
            }
        }
        for (int what = 0; what < 6; what++) {
            all.add(x.count(what));
        }
        int events = x.event(-1, 0);
        all.add(events);
        for (int i = 0; i < events; i++) {
            for (int what = 0; what < 3; what++) {
                all.add(x.event(i, what));
            }
        }
        all.add(x.spread());
    }

    private static void asItGoesOn(SlotStart x, List<Integer> all) {
        for (int i = 0; i < 6; i++) {
            all.add(x.run(1));
            for (int n = 0; n < 6; n++) {
                for (int what = 0; what < 8; what++) {
                    all.add(x.told(n, what));
                }
            }
        }
    }

    private static void clocksAndWhatMayCome(SlotStart x, List<Integer> all) {
        all.add(x.soon());
        for (int n = 0; n < 6; n++) {
            all.add(x.bears(n, 5, 40));
            all.add(x.bears(n, 40, 999));
        }
        for (int n = 0; n < 6; n++) {
            all.add(x.clock(n, 0, 0));
            all.add(x.clock(n, 1, 0));
        }
    }

    private static void slots(SlotStart x, List<Integer> all) {
        for (int n = 0; n < 6; n++) {
            all.add(x.off(n));
        }
        for (int n = 0; n < 6; n++) {
            for (int slot = 1; slot < 10; slot++) {
                all.add(x.node(n, 1, slot, 3));
            }
        }
    }

    /** Each alone leads behind its WAIT, if it is a STARTER; FOLLOWERS never do. */
    private static void kindsAndWaits(SlotStart x, List<Integer> all) {
        for (int n = 0; n < 6; n++) {
            x.off(n);
        }
        x.run(2);
        for (int n = 0; n < 6; n++) {
            x.wake(n, 0);
            for (int i = 0; i < 9; i++) {
                x.run(1);
                all.add(x.told(n, 0));
            }
            x.off(n);
            x.run(1);
        }
    }
}
