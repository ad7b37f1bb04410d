import java.util.List;

/** Promise 15: image. */
final class Promise15ImageTest {
    public static void main(String[] args) {
        SlotStart x = Scenes.three();
        Check.due("image(-1)", x.image(-1), SlotStart.OUTSIDE);
        Check.due("image(2)", x.image(2), SlotStart.OUTSIDE);
        Check.due("count(5)", x.count(5), 0);
        List<Integer> atFirst = Dump.of(x);
        Check.due("image(1)", x.image(1), 1);
        Check.due("count(5)", x.count(5), 2);
        Dump.same("image changes nothing", Dump.of(x), atFirst);
        x.run(7);
        List<Integer> later = Dump.of(x);
        Check.due("image(0)", x.image(0), 1);
        Check.due("count(5)", x.count(5), 3);
        x.run(7);
        x.restore(1);
        Dump.same("restore(1)", Dump.of(x), atFirst);
        x.restore(0);
        Dump.same("restore(0)", Dump.of(x), later);
        Check.due("image(1) in place of what was kept", x.image(1), 1);
        x.run(3);
        x.restore(1);
        Dump.same("restore(1) of the newer one", Dump.of(x), later);
        Check.end();
    }
}
