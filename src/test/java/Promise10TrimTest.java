/** Promise 10: trim. */
final class Promise10TrimTest {
    public static void main(String[] args) {
        refusals();
        numbers();
        ends();
        equalOnes();
        orders();
        again();
        fewerBehindRefused();
        Check.end();
    }

    private static void due(int want, int n, int a, int b, int c, int d) {
        String call = "trim(" + n + ", " + a + ", " + b + ", " + c + ", " + d + ")";
        Check.due(call, new SlotStart().trim(n, a, b, c, d), want);
    }

    private static void refusals() {
        due(SlotStart.OUTSIDE, 0, 0, 0, 0, 0);
        due(SlotStart.OUTSIDE, 5, 0, 0, 0, 0);
        due(SlotStart.OUTSIDE, -1, 0, 0, 0, 0);
        for (int sign = -1; sign <= 1; sign += 2) {
            due(SlotStart.OUTSIDE, 1, 5001 * sign, 0, 0, 0);
            due(SlotStart.OUTSIDE, 2, 0, 5001 * sign, 0, 0);
            due(SlotStart.OUTSIDE, 3, 0, 0, 5001 * sign, 0);
            due(SlotStart.OUTSIDE, 4, 0, 0, 0, 5001 * sign);
            due(100000, 1, 0, 5001 * sign, 5001 * sign, 5001 * sign);
            due(100000, 2, 0, 0, 5001 * sign, 5001 * sign);
            due(100000, 3, 0, 0, 0, 5001 * sign);
            due(100000 + 5000 * sign, 1, 5000 * sign, 0, 0, 0);
        }
        due(SlotStart.OUTSIDE, Integer.MIN_VALUE, 0, 0, 0, 0);
        due(SlotStart.OUTSIDE, Integer.MAX_VALUE, 0, 0, 0, 0);
        due(SlotStart.OUTSIDE, 0, 9999, 9999, 9999, 9999);
        due(SlotStart.OUTSIDE, 5, 9999, 9999, 9999, 9999);
    }

    /** Each of the first n at its ends and beyond, whatever is told behind them. */
    private static void ends() {
        int[] beyond = {Integer.MIN_VALUE, -5001, 5001, Integer.MAX_VALUE};
        int[] within = {-5000, 5000};
        for (int n = 1; n <= 4; n++) {
            for (int place = 0; place < 4; place++) {
                for (int v : beyond) {
                    int[] row = new int[4];
                    row[place] = v;
                    due(place < n ? SlotStart.OUTSIDE : 100000, n, row[0], row[1], row[2], row[3]);
                }
                for (int v : within) {
                    int[] row = new int[4];
                    row[place] = v;
                    int due = place >= n || n > 2 ? 0 : v / n;
                    due(100000 + due, n, row[0], row[1], row[2], row[3]);
                }
            }
        }
        for (int v : within) {
            for (int n = 1; n <= 4; n++) {
                due(100000 + v, n, v, v, v, v);
            }
        }
    }

    /** Of equal ones but one is left out. */
    private static void equalOnes() {
        due(100001, 3, 1, 1, 9, 0);
        due(100009, 3, 1, 9, 9, 0);
        due(100001, 3, 1, 9, 1, 0);
        due(100009, 3, 9, 9, 1, 0);
        due(100005, 4, 1, 1, 9, 9);
        due(100001, 4, 1, 1, 1, 9);
        due(100009, 4, 1, 9, 9, 9);
        due(99995, 4, -1, -9, -9, -1);
    }

    private static void numbers() {
        due(99999, 1, -1, 5, 6, 7);
        due(100001, 2, 1, 2, 9, 9);
        due(99999, 2, -1, -2, 9, 9);
        due(100000, 2, -2, 1, 9, 9);
        due(100000, 2, -5000, 5000, 9, 9);
        due(100005, 3, 1, 5, 5000, 9);
        due(100005, 3, 5, 5, 5, 9);
        due(100010, 3, 10, 10, -7, 9);
        due(100004, 4, 1, 4, 5, 100);
        due(99996, 4, -1, -4, -5, -100);
        due(100007, 4, 7, 7, 7, 7);
        due(100001, 4, 0, 0, 3, 3);
        due(105000, 4, 5000, 5000, 5000, 5000);
    }

    private static void again() {
        SlotStart x = new SlotStart();
        Check.due("trim(4, 1, 2, 3, 4)", x.trim(4, 1, 2, 3, 4), 100002);
        Check.due("trim(1, 9, 0, 0, 0)", x.trim(1, 9, 0, 0, 0), 100009);
        Check.due("trim(4, 1, 2, 3, 9999)", x.trim(4, 1, 2, 3, 9999), SlotStart.OUTSIDE);
        Check.due("trim(2, -9, -6, 0, 0)", x.trim(2, -9, -6, 0, 0), 99993);
    }

    /** The order in which the numbers are told is no matter. */
    private static void orders() {
        int[] some = {-30, 2, 9, 400};
        for (int a = 0; a < 4; a++) {
            for (int b = 0; b < 4; b++) {
                for (int c = 0; c < 4; c++) {
                    int d = 6 - a - b - c;
                    if (a != b && a != c && b != c) {
                        due(100005, 4, some[a], some[b], some[c], some[d]);
                    }
                }
            }
        }
    }

    /** What a refused call was told is no matter for the next one, which is told fewer numbers. */
    private static void fewerBehindRefused() {
        for (int sign = -1; sign <= 1; sign += 2) {
            for (int n = 1; n < 4; n++) {
                SlotStart x = new SlotStart();
                Check.due("refused", x.trim(4, 5001 * sign, 5001 * sign, 5001 * sign, 5001 * sign), SlotStart.OUTSIDE);
                Check.due("trim of " + n + " behind it", x.trim(n, 7, 7, 7, 7), 100007);
            }
        }
    }
}
