/** Promises 1 to 3, 32, 42 and 43: lamps and their lines. */
public final class LampTest {
    public static void main(String[] args) {
        promise1NewDesk();
        promise2AddLamp();
        promise3Patch();
        promise3PatchRefuses();
        promise32Line();
        promise42Sum();
        promise43LitShare();
        promise43LitShareOfFloats();
        Check.end();
    }

    private static void promise1NewDesk() {
        Lampboard x = new Lampboard();
        Check.same("new time", x.time(), 0);
        Check.same("new sum", x.sum(), 0);
        Check.is("new isSound", x.isSound());
        Check.refuses("new lamp 0", IndexOutOfBoundsException.class, () -> x.output(0, 0));
        Check.refuses("new group 0", java.util.NoSuchElementException.class, () -> x.fan(0, 0, 0, 0));
        Check.refuses("new palette 0", java.util.NoSuchElementException.class, () -> x.setPalette(0, 0));
        Check.refuses("new effect 0", java.util.NoSuchElementException.class, () -> x.start(0));
        Check.same("new programmer", x.clear(), 0);
        for (int list = 0; list < 3; list++) {
            int its = list;
            Check.same("new cues", x.cues(list), 0);
            Check.is("new isFading", !x.isFading(list));
            Check.refuses("new cueOf", java.util.NoSuchElementException.class, () -> x.cueOf(its));
            Check.same("new master", x.setMaster(list, 1), 100);
            Check.same("new priority", x.setPriority(list, 1), 5);
        }
    }

    private static void promise2AddLamp() {
        Lampboard x = new Lampboard();
        for (int lamp = 0; lamp < 12; lamp++) {
            Check.same("addLamp", x.addLamp(), lamp);
            Check.same("a new lamp is not patched", x.patch(lamp, -1), -1);
        }
        Check.refuses("lamp 13", IllegalStateException.class, x::addLamp);
        Check.same("lamp 11 is there", x.output(11, 3), 0);
        Check.refuses("lamp 12 is not", IndexOutOfBoundsException.class, () -> x.output(12, 0));
    }

    private static void promise3Patch() {
        Lampboard x = Desks.withLamps(3);
        Check.same("patch to the first line", x.patch(0, 0), -1);
        Check.same("patch right behind", x.patch(1, 4), -1);
        Check.same("patch to the last place", x.patch(2, 60), -1);
        Check.same("patch again", x.patch(2, 57), 60);
        Check.same("patch over its own lines", x.patch(2, 58), 57);
        Check.same("patch to the same line", x.patch(2, 58), 58);
        Check.same("patch to none", x.patch(1, -1), 4);
        Check.same("patch from none to none", x.patch(1, -1), -1);
        Check.same("a free place is taken", x.patch(2, 4), 58);
        x.set(2, 3, 44);
        Check.same("a line of the new place", x.line(7), 44);
        Check.same("a line of the old place", x.line(61), 0);
    }

    private static void promise3PatchRefuses() {
        Lampboard x = Desks.withLamps(2);
        x.patch(0, 20);
        for (int line = 17; line <= 23; line++) {
            int its = line;
            Check.refuses("patch to taken " + line, IllegalStateException.class, () -> x.patch(1, its));
        }
        Check.same("patch ahead of it", x.patch(1, 16), -1);
        Check.same("patch behind it", x.patch(1, 24), 16);
        Check.refuses("line 61", IllegalArgumentException.class, () -> x.patch(0, 61));
        Check.refuses("line -2", IllegalArgumentException.class, () -> x.patch(0, -2));
        Check.refuses("greatest line", IllegalArgumentException.class, () -> x.patch(0, Integer.MAX_VALUE));
        Check.refuses("lamp -1", IndexOutOfBoundsException.class, () -> x.patch(-1, 0));
        Check.refuses("lamp 2", IndexOutOfBoundsException.class, () -> x.patch(2, 0));
        Check.refuses("lamp ahead of line", IndexOutOfBoundsException.class, () -> x.patch(2, 61));
        Check.refuses("lamp ahead of taken", IndexOutOfBoundsException.class, () -> x.patch(2, 20));
        Check.same("nothing has changed", x.patch(1, -1), 24);
        Check.same("nothing has changed", x.patch(0, -1), 20);
    }

    private static void promise32Line() {
        Lampboard x = Desks.withLamps(2);
        x.patch(1, 60);
        for (int attribute = 0; attribute < 4; attribute++) {
            x.set(1, attribute, 100 + attribute);
            x.set(0, attribute, 50);
        }
        Check.same("line of no lamp", x.line(59), 0);
        Check.same("line 0 of no lamp", x.line(0), 0);
        for (int attribute = 0; attribute < 4; attribute++) {
            Check.same("line of an attribute", x.line(60 + attribute), 100 + attribute);
        }
        Check.refuses("line -1", IllegalArgumentException.class, () -> x.line(-1));
        Check.refuses("line 64", IllegalArgumentException.class, () -> x.line(64));
    }

    private static void promise42Sum() {
        Lampboard x = Desks.withLamps(12);
        for (int lamp = 0; lamp < 12; lamp++) {
            x.patch(lamp, 4 * lamp);
            for (int attribute = 0; attribute < 4; attribute++) {
                x.set(lamp, attribute, 255);
            }
        }
        Check.same("sum of 48 full lines", x.sum(), 48 * 255);
        x.patch(3, -1);
        Check.same("sum without a lamp's lines", x.sum(), 44 * 255);
        Lampboard y = Desks.withLamps(2);
        y.patch(0, 0);
        y.patch(1, 4);
        y.set(0, 1, 1);
        y.set(1, 1, 1);
        y.record(0);
        y.setTimes(0, 0, 0, 4);
        y.go(0);
        y.pass(2);
        Check.same("each line leaves out what is behind the point", y.sum(), 0);
    }

    private static void promise43LitShare() {
        Lampboard x = new Lampboard();
        Check.refuses("litShare without lamps", ArithmeticException.class, x::litShare);
        x.addLamp();
        Check.same("none lit", x.litShare(), 0.0);
        x.addLamp();
        x.addLamp();
        x.set(1, 0, 1);
        x.set(2, 1, 255);
        Check.same("one of three", x.litShare(), 1.0f / 3.0f);
        x.set(0, 0, 9);
        x.set(2, 0, 9);
        Check.same("all", x.litShare(), 1.0);
    }

    private static void promise43LitShareOfFloats() {
        Lampboard x = Desks.withLamps(1);
        x.set(0, 0, 1);
        x.record(0);
        x.setTimes(0, 0, 0, 10);
        x.go(0);
        Check.same("a fade at 0", x.litShare(), 0.0);
        x.pass(1);
        Check.same("the int is 0", x.output(0, 0), 0);
        Check.same("the float is not", x.litShare(), 1.0);
    }
}
