import java.util.Random;
import java.util.TreeMap;

/** Runs of 512 calls, drawn from fixed seeds: the class answers each call as the model does. */
final class ModelTest {
    private static final int RUNS = Integer.getInteger("runs", 400), CALLS = 512;
    private static final int[] ODD = {Integer.MIN_VALUE, Integer.MAX_VALUE, -1000, 1000, -7, -1, 0, 1, 6, 51};
    /** How often which answer was given: with -Dverbose the test tells it, to see what the runs reach. */
    private static final TreeMap<String, Integer> REACHED = new TreeMap<>();

    private final Random random;
    private final SlotStart x = new SlotStart();
    private final Model m = new Model();
    /** A wild run draws many wrong numbers, a calm one few. */
    private final int wildness;

    private ModelTest(long seed) {
        random = new Random(seed);
        wildness = random.nextInt(4) == 0 ? 10 : 150;
    }

    public static void main(String[] args) {
        for (int run = 0; run < RUNS; run++) {
            ModelTest test = new ModelTest(run);
            test.begin();
            for (int i = 0; i < CALLS - 20; i++) {
                test.call("seed " + run + ", call " + i + ": ");
            }
        }
        if (System.getProperty("verbose") != null) {
            REACHED.forEach((what, often) -> System.out.println(what + ": " + often));
        }
        Check.end();
    }

    /** Most runs begin with some NODES awake, so that much is reached. */
    private void begin() {
        for (int n = 0; n < 6; n++) {
            if (random.nextInt(3) == 0) {
                both("begin: ", 0, n, 1 + random.nextInt(2), 1 + random.nextInt(9), 1 + random.nextInt(9), 0);
            }
            if (random.nextInt(4) != 0) {
                both("begin: ", 3, n, between(-500, 500), 0, 0, 0);
            }
        }
    }

    private int between(int least, int most) {
        boolean isOdd = random.nextInt(wildness) == 0;
        return isOdd ? ODD[random.nextInt(ODD.length)] : least + random.nextInt(most - least + 1);
    }

    private int small(int most) {
        return random.nextInt(3) == 0 ? between(-most, most) : between(-most / 10, most / 10);
    }

    private void call(String where) {
        int n = between(0, 5);
        int draw = random.nextInt(100);
        if (draw < 4) {
            both(where, 0, n, between(1, 2), between(1, 9), between(1, 9), 0);
        } else if (draw < 12) {
            int what = between(0, 1);
            both(where, 1, n, what, what == 0 ? small(50) : small(400), 0, 0);
        } else if (draw < 14) {
            both(where, 2, random.nextInt(3) == 0 ? between(0, 500) : between(20, 200), 0, 0, 0, 0);
        } else if (draw < 22) {
            both(where, 3, n, small(500), 0, 0, 0);
        } else if (draw < 24) {
            both(where, 4, n, 0, 0, 0, 0);
        } else if (draw < 44) {
            both(where, 5, random.nextInt(6) == 0 ? between(1, 50) : between(1, 4), 0, 0, 0, 0);
        } else if (draw < 64) {
            both(where, 6, n, between(0, 9), 0, 0, 0);
        } else if (draw < 72) {
            both(where, 7, n, between(0, 5), 0, 0, 0);
        } else if (draw < 76) {
            both(where, 8, between(1, 4), small(5000), small(5000), small(5000), small(5000));
        } else if (draw < 84) {
            both(where, 9, between(-2, 41), between(0, 2), 0, 0, 0);
        } else if (draw < 87) {
            both(where, 10, 0, 0, 0, 0, 0);
        } else if (draw < 88) {
            both(where, 11, 0, 0, 0, 0, 0);
        } else if (draw < 89) {
            both(where, 12, n, between(1, 40), random.nextInt(2) == 0 ? between(0, 999) : between(0, 60), 0, 0);
        } else if (draw < 90) {
            both(where, 13, between(0, 1), 0, 0, 0, 0);
        } else if (draw < 91) {
            both(where, 14, between(0, 1), 0, 0, 0, 0);
        } else {
            both(where, 15, between(0, 5), 0, 0, 0, 0);
        }
    }

    private void both(String where, int call, int a, int b, int c, int d, int e) {
        int got;
        int want;
        String name;
        switch (call) {
            case 0: name = "node"; got = x.node(a, b, c, d); want = m.node(a, b, c, d); break;
            case 1: name = "clock"; got = x.clock(a, b, c); want = m.clock(a, b, c); break;
            case 2: name = "bound"; got = x.bound(a); want = m.bound(a); break;
            case 3: name = "wake"; got = x.wake(a, b); want = m.wake(a, b); break;
            case 4: name = "off"; got = x.off(a); want = m.off(a); break;
            case 5: name = "run"; got = x.run(a); want = m.run(a); break;
            case 6: name = "told"; got = x.told(a, b); want = m.told(a, b); break;
            case 7: name = "seen"; got = x.seen(a, b); want = m.seen(a, b); break;
            case 8: name = "trim"; got = x.trim(a, b, c, d, e); want = m.trim(a, b, c, d, e); break;
            case 9: name = "event"; got = x.event(a, b); want = m.event(a, b); break;
            case 10: name = "spread"; got = x.spread(); want = m.spread(); break;
            case 11: name = "soon"; got = x.soon(); want = m.soon(); break;
            case 12: name = "bears"; got = x.bears(a, b, c); want = m.bears(a, b, c); break;
            case 13: name = "image"; got = x.image(a); want = m.image(a); break;
            case 14: name = "restore"; got = x.restore(a); want = m.restore(a); break;
            default: name = "count"; got = x.count(a); want = m.count(a); break;
        }
        String told = name + "(" + a + ", " + b + ", " + c + ", " + d + ", " + e + ")";
        Check.due(where + told, got, want);
        boolean tellsWhatItIs = name.equals("told") && b == 0 || name.equals("event") && b == 2 && a >= 0;
        boolean fewAnswers = got < 0 || tellsWhatItIs || "soon bears run off".contains(name);
        String kind = tellsWhatItIs ? name + " of what it is" : name;
        REACHED.merge(kind + " answered " + (fewAnswers ? String.valueOf(got) : "a number"), 1, Integer::sum);
    }
}
