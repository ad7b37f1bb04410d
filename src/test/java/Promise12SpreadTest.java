/** Promise 12: spread. */
final class Promise12SpreadTest {
    public static void main(String[] args) {
        SlotStart x = new SlotStart();
        Check.due("spread() of none", x.spread(), 0);
        x.wake(0, 500);
        x.wake(1, -500);
        x.wake(3, 77);
        Check.due("spread() of LISTENING ones", x.spread(), 0);
        x.run(7);
        Check.due("count(2)", x.count(2), 1);
        Check.due("spread() of one", x.spread(), 0);
        SlotStart y = Scenes.three();
        y.bound(500);
        y.clock(0, 0, -30);
        y.clock(1, 0, 20);
        y.clock(3, 0, 50);
        y.run(1);
        Check.due("spread() behind CYCLE 9", y.spread(), 80);
        y.run(1);
        Check.due("spread() behind CYCLE 10", y.spread(), 160);
        y.off(0);
        Check.due("spread() of 1 and 3", y.spread(), 60);
        y.off(3);
        Check.due("spread() of 1", y.spread(), 0);
        SlotStart z = Scenes.onePassive();
        Check.due("spread() without a PASSIVE one", z.spread(), 0);
        Check.end();
    }
}
