import java.util.List;

/** Promise 14: bears. */
final class Promise14BearsTest {
    public static void main(String[] args) {
        refusals();
        othersStayActive();
        othersStayNear();
        greaterOnesMayBeBorne();
        nothingChanges();
        Check.end();
    }

    private static void refusals() {
        SlotStart x = new SlotStart();
        Check.due("bears(-1, 1, 1)", x.bears(-1, 1, 1), SlotStart.UNKNOWN);
        Check.due("bears(6, 0, -1)", x.bears(6, 0, -1), SlotStart.UNKNOWN);
        Check.due("bears(0, 0, 0)", x.bears(0, 0, 0), SlotStart.OUTSIDE);
        Check.due("bears(0, 41, 0)", x.bears(0, 41, 0), SlotStart.OUTSIDE);
        Check.due("bears(0, 1, -1)", x.bears(0, 1, -1), SlotStart.OUTSIDE);
        Check.due("bears(0, 1, 1000)", x.bears(0, 1, 1000), SlotStart.OUTSIDE);
        Check.due("bears(5, 1, 0)", x.bears(5, 1, 0), 400);
        Check.due("bears(0, 40, 999)", x.bears(0, 40, 999), 400);
    }

    /** In CYCLE 9 the other one sees the LIE: the size of TRIM is half of it. */
    private static void othersStayActive() {
        SlotStart x = Scenes.two();
        Check.due("bears(0, 1, 0), BOUND 100", x.bears(0, 1, 0), 200);
        x.clock(0, 1, 300);
        Check.due("bears(0, 1, 0), whatever its LIE is", x.bears(0, 1, 0), 200);
        Check.due("LIE stays", x.clock(0, 1, 0), 1300);
        x.bound(57);
        Check.due("bears(0, 1, 0), BOUND 57", x.bears(0, 1, 0), 110);
        x.bound(200);
        Check.due("bears(0, 1, 0), BOUND 200", x.bears(0, 1, 0), 400);
        x.bound(199);
        Check.due("bears(0, 1, 0), BOUND 199", x.bears(0, 1, 0), 390);
        x.bound(0);
        x.clock(1, 0, 50);
        Check.due("bears(0, 2, 999): none but 0", x.bears(0, 2, 999), 0);
        Check.due("bears(0, 3, 999): the other one falls silent", x.bears(0, 3, 999), SlotStart.NONE);
        Check.due("bears(2, 2, 999) of one that is OFF", x.bears(2, 2, 999), 400);
        Check.due("bears(2, 3, 999) of one that is OFF", x.bears(2, 3, 999), SlotStart.NONE);
    }

    /** NODES 1 and 3 move apart by 30 ticks a CYCLE; NODE 0 that lies is not counted itself. */
    private static void othersStayNear() {
        SlotStart x = Scenes.three();
        x.bound(500);
        x.clock(3, 0, 30);
        x.clock(0, 0, -50);
        Check.due("bears(0, 1, 29)", x.bears(0, 1, 29), SlotStart.NONE);
        Check.due("bears(0, 1, 30)", x.bears(0, 1, 30), 400);
        Check.due("bears(0, 2, 59)", x.bears(0, 2, 59), SlotStart.NONE);
        Check.due("bears(0, 2, 60)", x.bears(0, 2, 60), 400);
    }

    /**
     * In CYCLE 9 the NODES 0, 1, 3 have AT 0, and 1 tells a LIE of 100. NODE 3 sees L, 100, 0: TRIM is the one in the
     * middle, and of the moves, too, so AT is 2 m behind it, where m is the lesser of L and 100. NODE 1 sees L, 0, 0:
     * 0. They are 2 m apart at most, for each L from 100 on 200.
     */
    private static void greaterOnesMayBeBorne() {
        SlotStart x = Scenes.three();
        x.bound(500);
        x.clock(1, 1, 100);
        Check.due("bears(0, 1, 199)", x.bears(0, 1, 199), 90);
        Check.due("bears(0, 1, 200)", x.bears(0, 1, 200), 400);
        Check.due("bears(0, 1, 40)", x.bears(0, 1, 40), 20);
        Check.due("bears(0, 1, 39)", x.bears(0, 1, 39), 10);
        Check.due("bears(0, 1, 0)", x.bears(0, 1, 0), 0);
    }

    private static void nothingChanges() {
        SlotStart x = Scenes.six();
        x.clock(0, 0, 9);
        x.clock(3, 1, 90);
        x.run(5);
        x.image(1);
        List<Integer> ahead = Dump.of(x);
        x.bears(0, 40, 999);
        Dump.same("bears(0, 40, 999) changes nothing", Dump.of(x), ahead);
        x.bears(0, 40, 0);
        Dump.same("bears(0, 40, 0) changes nothing", Dump.of(x), ahead);
        Check.due("DRIFT stays", x.clock(0, 0, 9), 1009);
        Check.due("LIE stays", x.clock(3, 1, 90), 1090);
        x.restore(1);
        Dump.same("an IMAGE stays", Dump.of(x), ahead);
    }
}
