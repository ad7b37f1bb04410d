/** Promise 15: image. */
final class Promise15ImageTest {
    public static void main(String[] args) {
        answers();
        ofANewObject();
        changesNothingElse();
        inPlaceOfWhatWasKept();
        theOtherOneStays();
        Check.end();
    }

    private static void answers() {
        SlotStart x = new SlotStart();
        Check.due("image(-1)", x.image(-1), SlotStart.OUTSIDE);
        Check.due("image(2)", x.image(2), SlotStart.OUTSIDE);
        Check.due("none is kept", x.count(5), 0);
        Check.due("image(1)", x.image(1), 1);
        Check.due("the second is kept", x.count(5), 2);
        Check.due("image(2)", x.image(2), SlotStart.OUTSIDE);
        Check.due("the second is kept", x.count(5), 2);
        Check.due("image(0)", x.image(0), 1);
        Check.due("both are kept", x.count(5), 3);
        Check.due("image(0) again", x.image(0), 1);
        Check.due("both are kept", x.count(5), 3);
        SlotStart y = new SlotStart();
        Check.due("image(0)", y.image(0), 1);
        Check.due("the first is kept", y.count(5), 1);
    }

    private static void ofANewObject() {
        Twins.same("an IMAGE of a new object", y -> y.image(0), y -> {
            y.image(0);
            much(y);
            y.restore(0);
        });
    }

    private static void changesNothingElse() {
        for (int k = 0; k < 2; k++) {
            int image = k;
            Twins.same("image(" + k + ") twice", x -> {
                much(x);
                x.image(image);
            }, x -> {
                much(x);
                x.image(image);
                x.image(image);
            });
        }
        SlotStart x = new SlotStart();
        SlotStart y = new SlotStart();
        much(x);
        much(y);
        y.image(0);
        for (int n = 0; n < 6; n++) {
            for (int what = 0; what < 10; what++) {
                Check.due("told(" + n + ", " + what + ")", y.told(n, what), x.told(n, what));
            }
        }
        Check.due("run(20)", y.run(20), x.run(20));
        Check.due("event(-1, 0)", y.event(-1, 0), x.event(-1, 0));
    }

    /** What was kept there first is no matter any more. */
    private static void inPlaceOfWhatWasKept() {
        for (int k = 0; k < 2; k++) {
            int image = k;
            Twins.same("image(" + k + ") in place of another", x -> {
                much(x);
                x.image(1 - image);
                x.image(image);
            }, x -> {
                x.image(1 - image);
                x.wake(5, 1);
                x.run(2);
                x.image(image);
                x.restore(1 - image);
                much(x);
                x.image(1 - image);
                x.image(image);
            });
        }
    }

    private static void theOtherOneStays() {
        SlotStart x = new SlotStart();
        x.bound(11);
        x.image(0);
        x.bound(22);
        x.image(1);
        x.bound(33);
        x.restore(0);
        Check.due("the first", x.count(4), 11);
        x.restore(1);
        Check.due("the second", x.count(4), 22);
        x.bound(44);
        x.image(0);
        x.restore(1);
        Check.due("the second stays", x.count(4), 22);
        x.restore(0);
        Check.due("the first is another", x.count(4), 44);
    }

    static void much(SlotStart x) {
        x.node(5, 1, 9, 2);
        x.clock(1, 0, 17);
        x.clock(3, 1, -25);
        x.bound(123);
        x.wake(0, 10);
        x.wake(1, 20);
        x.wake(3, 30);
        x.run(12);
    }
}
