import java.util.ArrayList;
import java.util.List;

/** All that can be told of an object without a change of it, but for which IMAGES are kept. */
final class Dump {
    private Dump() {
    }

    static List<Integer> of(SlotStart x) {
        List<Integer> all = new ArrayList<>();
        for (int n = 0; n < 6; n++) {
            for (int what = 0; what < 10; what++) {
                all.add(x.told(n, what));
            }
            for (int other = 0; other < 6; other++) {
                all.add(x.seen(n, other));
            }
        }
        for (int what = 0; what < 5; what++) {
            all.add(x.count(what));
        }
        for (int i = -1; i < 40; i++) {
            for (int what = 0; what < 3; what++) {
                all.add(x.event(i, what));
            }
        }
        all.add(x.spread());
        return all;
    }

    static void same(String what, List<Integer> got, List<Integer> want) {
        Check.due(what, got.equals(want) ? 1 : 0, 1);
    }
}
