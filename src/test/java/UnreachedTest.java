import java.lang.reflect.Field;

/**
 * Sentences of Terms 2 that no run of calls seems to reach (NOTES.md says why): a NODE is made LEADING with some AGE
 * by hand, beside others that are ACTIVE. It is the only test that knows how the class holds its state.
 */
final class UnreachedTest {
    public static void main(String[] args) throws ReflectiveOperationException {
        givesWayToOneThatIsNotLeading();
        givesWayAndJoinsInOneCycle();
        leaderBelowAgeThree();
        Check.end();
    }

    private static void makeLeading(SlotStart x, int node, int age) throws ReflectiveOperationException {
        Object[] nodes = (Object[]) field(field(x, "bus"), "nodes");
        set(nodes[node], "is", 2);
        set(nodes[node], "age", age);
        Check.due("told(" + node + ", 0)", x.told(node, 0), 2);
        Check.due("told(" + node + ", 1)", x.told(node, 1), age);
    }

    private static Object field(Object of, String name) throws ReflectiveOperationException {
        Field f = of.getClass().getDeclaredField(name);
        f.setAccessible(true);
        return f.get(of);
    }

    private static void set(Object of, String name, int v) throws ReflectiveOperationException {
        Field f = of.getClass().getDeclaredField(name);
        f.setAccessible(true);
        f.setInt(of, v);
    }

    /** (a): 0 and 1 are ACTIVE, with greater SLOTS than NODE 2; with AGE 2 it would SEND. */
    private static void givesWayToOneThatIsNotLeading() throws ReflectiveOperationException {
        for (int age = 1; age <= 2; age++) {
            SlotStart x = new SlotStart();
            x.node(0, 1, 8, 3);
            x.node(2, 1, 1, 3);
            x.wake(0, 0);
            x.wake(1, 0);
            x.run(9);
            x.wake(2, 0);
            makeLeading(x, 2, age);
            x.run(1);
            Check.due("SENT, AGE " + age, x.count(1), age == 1 ? 3 : 7);
            Check.due("IS, AGE " + age, x.told(2, 0), age == 1 ? 1 : 2);
            Check.due("HEARD, AGE " + age, x.told(2, 9), 2);
        }
    }

    /** Promise 11: LISTENING by (a) and JOINING by (c) of CYCLE 10, as it had the same GUIDE in CYCLE 9. */
    private static void givesWayAndJoinsInOneCycle() throws ReflectiveOperationException {
        SlotStart x = Scenes.two();
        x.wake(2, 0);
        x.run(1);
        Check.due("GUIDE in CYCLE 9", x.told(2, 8), 0);
        makeLeading(x, 2, 1);
        int first = x.event(-1, 0);
        x.run(1);
        Check.due("two events", x.event(-1, 0), first + 2);
        int[][] due = {{10, 2, 1}, {10, 2, 3}};
        for (int i = 0; i < 2; i++) {
            for (int what = 0; what < 3; what++) {
                Check.due("event " + i + ", " + what, x.event(first + i, what), due[i][what]);
            }
        }
        Check.due("AGE", x.told(2, 1), 0);
        Check.due("it did not SEND", x.count(1), 3);
    }

    /** (c): it HEARS STARTERS; AGE 2 is not enough, AGE 3 is. */
    private static void leaderBelowAgeThree() throws ReflectiveOperationException {
        SlotStart x = Scenes.two();
        x.wake(2, 0);
        makeLeading(x, 2, 2);
        x.run(1);
        Check.due("HEARD", x.told(2, 9), 2);
        Check.due("LEADING behind AGE 2", x.told(2, 0), 2);
        x.run(1);
        Check.due("ACTIVE behind AGE 3", x.told(2, 0), 4);
    }
}
