/** Promise 14: bears. */
final class Promise14BearsTest {
    public static void main(String[] args) {
        refusals();
        othersStayActive();
        othersStayNear();
        greaterOnesMayBeBorne();
        asManyCyclesAsThereMayBe();
        asFarApartAsTheyMayBe();
        byTens();
        fewOthers();
        othersThatComeLater();
        othersThatComeBack();
        nothingChanges();
        Check.end();
    }

    private static void refusals() {
        SlotStart x = new SlotStart();
        Check.due("bears(-1, 1, 1)", x.bears(-1, 1, 1), SlotStart.UNKNOWN);
        Check.due("bears(6, 0, -1)", x.bears(6, 0, -1), SlotStart.UNKNOWN);
        Check.due("bears(0, 0, 0)", x.bears(0, 0, 0), SlotStart.OUTSIDE);
        Check.due("bears(0, 41, 0)", x.bears(0, 41, 0), SlotStart.OUTSIDE);
        Check.due("bears(0, 1, -1)", x.bears(0, 1, -1), SlotStart.OUTSIDE);
        Check.due("bears(0, 1, 1000)", x.bears(0, 1, 1000), SlotStart.OUTSIDE);
        Check.due("bears(5, 1, 0)", x.bears(5, 1, 0), 400);
        Check.due("bears(0, 40, 999)", x.bears(0, 40, 999), 400);
    }

    /** In CYCLE 9 the other one sees the LIE: the size of TRIM is half of it. */
    private static void othersStayActive() {
        SlotStart x = Scenes.two();
        Check.due("bears(0, 1, 0), BOUND 100", x.bears(0, 1, 0), 200);
        x.clock(0, 1, 300);
        Check.due("bears(0, 1, 0), whatever its LIE is", x.bears(0, 1, 0), 200);
        Check.due("LIE stays", x.clock(0, 1, 0), 1300);
        x.bound(57);
        Check.due("bears(0, 1, 0), BOUND 57", x.bears(0, 1, 0), 110);
        x.bound(200);
        Check.due("bears(0, 1, 0), BOUND 200", x.bears(0, 1, 0), 400);
        x.bound(199);
        Check.due("bears(0, 1, 0), BOUND 199", x.bears(0, 1, 0), 390);
        x.bound(0);
        x.clock(1, 0, 50);
        Check.due("bears(0, 2, 999): none but 0", x.bears(0, 2, 999), 0);
        Check.due("bears(0, 3, 999): the other one falls silent", x.bears(0, 3, 999), SlotStart.NONE);
        Check.due("bears(2, 2, 999) of one that is OFF", x.bears(2, 2, 999), 400);
        Check.due("bears(2, 3, 999) of one that is OFF", x.bears(2, 3, 999), SlotStart.NONE);
    }

    /** NODES 1 and 3 move apart by 30 ticks a CYCLE; NODE 0 that lies is not counted itself. */
    private static void othersStayNear() {
        SlotStart x = Scenes.three();
        x.bound(500);
        x.clock(3, 0, 30);
        x.clock(0, 0, -50);
        Check.due("bears(0, 1, 29)", x.bears(0, 1, 29), SlotStart.NONE);
        Check.due("bears(0, 1, 30)", x.bears(0, 1, 30), 400);
        Check.due("bears(0, 2, 59)", x.bears(0, 2, 59), SlotStart.NONE);
        Check.due("bears(0, 2, 60)", x.bears(0, 2, 60), 400);
    }

    /**
     * In CYCLE 9 the NODES 0, 1, 3 have AT 0, and 1 tells a LIE of 100. NODE 3 sees L, 100, 0: TRIM is the one in the
     * middle, and of the moves, too, so AT is 2 m behind it, where m is the lesser of L and 100. NODE 1 sees L, 0, 0:
     * 0. They are 2 m apart at most, for each L from 100 on 200.
     */
    private static void greaterOnesMayBeBorne() {
        SlotStart x = Scenes.three();
        x.bound(500);
        x.clock(1, 1, 100);
        Check.due("bears(0, 1, 199)", x.bears(0, 1, 199), 90);
        Check.due("bears(0, 1, 200)", x.bears(0, 1, 200), 400);
        Check.due("bears(0, 1, 40)", x.bears(0, 1, 40), 20);
        Check.due("bears(0, 1, 39)", x.bears(0, 1, 39), 10);
        Check.due("bears(0, 1, 0)", x.bears(0, 1, 0), 0);
    }

    /**
     * 0, 1 and 3 are ACTIVE, and 223 ticks apart at most behind each of the next 39 CYCLES, 224 behind the 40th; 5 is
     * OFF, so its LIE is no matter. The scene was found by trying; run and spread tell that it is so.
     */
    private static void asManyCyclesAsThereMayBe() {
        SlotStart x = slowlyApart();
        Check.due("bears(5, 39, 223)", x.bears(5, 39, 223), 400);
        Check.due("bears(5, 40, 223)", x.bears(5, 40, 223), SlotStart.NONE);
        Check.due("bears(5, 40, 224)", x.bears(5, 40, 224), 400);
        Check.due("bears(5, 41, 224)", x.bears(5, 41, 224), SlotStart.OUTSIDE);
        int most = 0;
        for (int i = 0; i < 39; i++) {
            Check.due("run(1)", x.run(1), 11);
            most = Math.max(most, x.spread());
        }
        Check.due("the greatest SPREAD behind 39", most, 223);
        Check.due("run(1)", x.run(1), 11);
        Check.due("SPREAD behind 40", x.spread(), 224);
    }

    private static SlotStart slowlyApart() {
        SlotStart x = new SlotStart();
        x.wake(0, 0);
        x.wake(2, 0);
        x.wake(3, 0);
        x.clock(3, 1, 300);
        x.run(15);
        x.off(2);
        x.bound(500);
        x.wake(1, 0);
        x.clock(0, 0, -10);
        x.clock(0, 1, -300);
        x.clock(1, 0, 46);
        x.run(10);
        return x;
    }

    /** Behind 1 CYCLE the NODES 0 and 1 are 700 apart, behind 2 they are 1000; one tick less with a lesser lie. */
    private static void asFarApartAsTheyMayBe() {
        SlotStart x = Scenes.goingApart(400, 400);
        Check.due("bears(5, 1, 699)", x.bears(5, 1, 699), SlotStart.NONE);
        Check.due("bears(5, 1, 700)", x.bears(5, 1, 700), 400);
        Check.due("bears(5, 2, 999) of 1000", x.bears(5, 2, 999), SlotStart.NONE);
        Check.due("bears(5, 2, 1000)", x.bears(5, 2, 1000), SlotStart.OUTSIDE);
        SlotStart y = Scenes.goingApart(400, 398);
        Check.due("bears(5, 2, 999) of 999", y.bears(5, 2, 999), 400);
        Check.due("bears(5, 2, 998) of 999", y.bears(5, 2, 998), SlotStart.NONE);
    }

    /** The LIE that it has is not among those that are tried: they are 0 to 400 by tens, never below 0. */
    private static void byTens() {
        for (int lie = -400; lie <= 400; lie += 85) {
            SlotStart x = Scenes.two();
            x.clock(0, 1, lie);
            for (int bound = 0; bound <= 200; bound++) {
                x.bound(bound);
                int due = Math.min(400, (2 * bound + 1) / 10 * 10);
                Check.due("bears(0, 1, 0) with BOUND " + bound + ", LIE " + lie, x.bears(0, 1, 0), due);
            }
        }
    }

    /** The others that are ACTIVE: none, or one. */
    private static void fewOthers() {
        SlotStart x = Scenes.two();
        x.off(0);
        Check.due("bears(1, 40, 0) of none", x.bears(1, 40, 0), 400);
        Check.due("bears(0, 1, 0): the other one HEARS nobody", x.bears(0, 1, 0), SlotStart.NONE);
        SlotStart y = new SlotStart();
        y.wake(0, 0);
        y.wake(1, 300);
        Check.due("bears(0, 40, 0): one other, LISTENING now", y.bears(0, 40, 0), 400);
    }

    /**
     * NODES 1 and 2 are ACTIVE behind CYCLE 8 first, and 30 ticks apart then. In CYCLE 9 NODE 1 sees 30, or less with
     * a lesser LIE of NODE 0, and NODE 2 sees -30 with a LIE of 0: with BOUND 0 one of them falls silent. That is
     * borne by one that was not ACTIVE when it was asked.
     */
    private static void othersThatComeLater() {
        SlotStart x = new SlotStart();
        x.bound(0);
        for (int n = 0; n < 3; n++) {
            x.wake(n, 0);
        }
        x.run(6);
        x.clock(2, 0, 10);
        Check.due("bears(0, 2, 0): not ACTIVE by then", x.bears(0, 2, 0), 400);
        Check.due("bears(0, 3, 29): ACTIVE then, too far apart", x.bears(0, 3, 29), SlotStart.NONE);
        Check.due("bears(0, 3, 30): ACTIVE then", x.bears(0, 3, 30), 400);
        Check.due("bears(0, 4, 30): one is silent then", x.bears(0, 4, 30), 400);
        x.run(3);
        Check.due("count(2)", x.count(2), 7);
        Check.due("bears(0, 1, 999): one that is ACTIVE now is silent then", x.bears(0, 1, 999), SlotStart.NONE);
    }

    /** NODE 2 is ACTIVE behind 43 and 44, silent behind 45, and ACTIVE again behind 49: that is not each of them. */
    private static void othersThatComeBack() {
        SlotStart x = Scenes.slow();
        x.run(43);
        Check.due("count(2)", x.count(2), 4);
        Check.due("bears(4, 1, 0)", x.bears(4, 1, 0), 400);
        Check.due("bears(4, 2, 999)", x.bears(4, 2, 999), SlotStart.NONE);
        Check.due("bears(4, 6, 999)", x.bears(4, 6, 999), SlotStart.NONE);
        Check.due("run(1)", x.run(1), 4);
        Check.due("run(1)", x.run(1), 40);
        Check.due("run(4)", x.run(4), 4);
    }

    private static void nothingChanges() {
        Twins.Story story = x -> {
            for (int n = 0; n < 6; n++) {
                x.wake(n, 0);
            }
            x.run(9);
            x.clock(0, 0, 9);
            x.clock(3, 1, 90);
            x.run(5);
            x.image(1);
        };
        Twins.same("bears changes nothing", story, x -> {
            story.tell(x);
            for (int n = 0; n < 6; n++) {
                x.bears(n, 40, 999);
                x.bears(n, 40, 0);
                x.bears(n, 1, 50);
            }
        });
    }
}
