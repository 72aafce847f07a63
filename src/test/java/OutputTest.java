import java.util.NoSuchElementException;

/** Promises 30, 31, 33 and 34: what is put out, and who decides it. */
public final class OutputTest {
    public static void main(String[] args) {
        promise30Output();
        promise31OutputBits();
        promise31BitsOfTheSmallest();
        promise33DecidesLight();
        promise33DecidesOthers();
        promise34ValueIn();
        fadesByTime();
        fadesOfTheShape();
        fadesFollowTheirEntry();
        keptFades();
        Check.end();
    }

    private static void promise30Output() {
        Lampboard x = Desks.withLamps(1);
        for (int attribute = 0; attribute < 4; attribute++) {
            Check.same("nothing", x.output(0, attribute), 0);
        }
        x.set(0, 2, 255);
        Check.same("the programmer, not patched", x.output(0, 2), 255);
        Check.refuses("lamp 1", IndexOutOfBoundsException.class, () -> x.output(1, 4));
        Check.refuses("lamp -1", IndexOutOfBoundsException.class, () -> x.output(-1, 0));
        Check.refuses("attribute 4", IllegalArgumentException.class, () -> x.output(0, 4));
        Check.refuses("attribute -1", IllegalArgumentException.class, () -> x.output(0, -1));
    }

    private static void promise31OutputBits() {
        Lampboard x = Desks.withLamps(1);
        Check.same("nothing", x.outputBits(0, 0), 0);
        for (int value = 0; value <= 255; value++) {
            // A desk is used for 512 calls at the most.
            x = value == 128 ? Desks.withLamps(1) : x;
            x.set(0, 0, value);
            Check.same("bits of " + value, x.outputBits(0, 0), Float.floatToIntBits(value));
        }
        Lampboard y = Desks.withLamps(1);
        Desks.cue(y, 0, 0, 1, 1);
        y.setTimes(0, 0, 0, 3);
        y.go(0);
        y.pass(1);
        Check.same("a third", y.outputBits(0, 1), Float.floatToIntBits(1.0f / 3.0f));
        y.pass(1);
        Check.same("two thirds", y.outputBits(0, 1), Float.floatToIntBits(2.0f / 3.0f));
        Check.refuses("lamp 1", IndexOutOfBoundsException.class, () -> y.outputBits(1, 4));
        Check.refuses("lamp -1", IndexOutOfBoundsException.class, () -> y.outputBits(-1, 0));
        Check.refuses("attribute 4", IllegalArgumentException.class, () -> y.outputBits(0, 4));
        Check.refuses("attribute -1", IllegalArgumentException.class, () -> y.outputBits(0, -1));
    }

    /** A cue at 0 that begins again and again ahead of its end comes ever nearer to it, below the normal floats too. */
    private static void promise31BitsOfTheSmallest() {
        Lampboard x = Desks.withLamps(1);
        Desks.cue(x, 0, 0, 1, 255);
        x.go(0);
        Desks.cue(x, 0, 0, 1, 0);
        x.setTimes(0, 1, 0, 20);
        float value = 255.0f;
        boolean wasSubnormal = false;
        for (int turn = 0; turn < 60; turn++) {
            x.goTo(0, 1);
            x.pass(19);
            value = value + (0.0f - value) * (19.0f / 20.0f);
            wasSubnormal |= value > 0.0f && value < Float.MIN_NORMAL;
            Check.same("bits in turn " + turn, x.outputBits(0, 1), Float.floatToIntBits(value));
        }
        Check.is("there was a value below the normal floats", wasSubnormal);
    }

    private static void promise33DecidesLight() {
        Lampboard x = Desks.withLamps(1);
        Check.refuses("nobody", NoSuchElementException.class, () -> x.decides(0, 0));
        int[] values = {80, 100, 100};
        for (int list = 0; list < 3; list++) {
            Desks.cue(x, list, 0, 0, values[list]);
            x.go(list);
        }
        Check.same("the greatest, of two the lowest number", x.decides(0, 0), 1);
        x.setMaster(1, 79);
        Check.same("the masters are in it", x.decides(0, 0), 2);
        x.setMaster(2, 79);
        Check.same("the masters are in it", x.decides(0, 0), 0);
        Check.same("value", x.output(0, 0), 80);
        x.setMaster(1, 80);
        Check.same("the same, by the lowest number", x.decides(0, 0), 0);
        x.setPriority(2, 6);
        Check.same("a lower value of a greater priority", x.decides(0, 0), 2);
        x.setMaster(2, 0);
        Check.same("even at 0", x.decides(0, 0), 2);
        x.set(0, 0, 1);
        Check.same("the programmer", x.decides(0, 0), 3);
        Check.same("the programmer", x.output(0, 0), 1);
        Check.refuses("lamp 1", IndexOutOfBoundsException.class, () -> x.decides(1, 4));
        Check.refuses("lamp -1", IndexOutOfBoundsException.class, () -> x.decides(-1, 0));
        Check.refuses("attribute 4", IllegalArgumentException.class, () -> x.decides(0, 4));
        Check.refuses("attribute -1", IllegalArgumentException.class, () -> x.decides(0, -1));
        Check.refuses("nobody", NoSuchElementException.class, () -> x.decides(0, 1));
    }

    private static void promise33DecidesOthers() {
        Lampboard x = Desks.withLamps(1);
        for (int list = 0; list < 3; list++) {
            Desks.cue(x, list, 0, 1, 30 - list);
            Desks.cue(x, list, 0, 2, 1);
        }
        x.goTo(2, 0);
        x.goTo(0, 0);
        Check.same("the latest", x.decides(0, 1), 0);
        x.goTo(1, 0);
        Check.same("the latest", x.output(0, 1), 29);
        x.goTo(2, 1);
        Check.same("a kept fade is not later", x.decides(0, 1), 1);
        Check.same("a new one is", x.decides(0, 2), 2);
        x.goTo(2, 0);
        Check.same("begun again", x.decides(0, 1), 2);
        x.setPriority(0, 6);
        Check.same("priority ahead of the latest", x.decides(0, 1), 0);
        x.release(0);
        Check.same("without it", x.decides(0, 1), 2);
        x.setMaster(2, 0);
        Check.same("no master", x.output(0, 1), 28);
    }

    private static void promise34ValueIn() {
        Lampboard x = Desks.withLamps(1);
        Desks.cue(x, 1, 0, 0, 9);
        Check.refuses("no fade", NoSuchElementException.class, () -> x.valueIn(1, 0, 0));
        x.setTimes(1, 0, 0, 2);
        x.setMaster(1, 10);
        x.go(1);
        x.pass(1);
        x.set(0, 0, 200);
        Check.same("its own, behind the point left out", x.valueIn(1, 0, 0), 4);
        Check.refuses("list 3", IndexOutOfBoundsException.class, () -> x.valueIn(3, 0, 4));
        Check.refuses("list -1", IndexOutOfBoundsException.class, () -> x.valueIn(-1, 0, 0));
        Check.refuses("lamp 1", IndexOutOfBoundsException.class, () -> x.valueIn(1, 1, 4));
        Check.refuses("lamp -1", IndexOutOfBoundsException.class, () -> x.valueIn(1, -1, 0));
        Check.refuses("attribute 4", IllegalArgumentException.class, () -> x.valueIn(1, 0, 4));
        Check.refuses("attribute -1", IllegalArgumentException.class, () -> x.valueIn(1, 0, -1));
        Check.refuses("no fade", NoSuchElementException.class, () -> x.valueIn(1, 0, 1));
        Check.refuses("no fade of this list", NoSuchElementException.class, () -> x.valueIn(0, 0, 0));
    }

    private static void fadesByTime() {
        Lampboard x = Desks.withLamps(1);
        Desks.cue(x, 0, 0, 1, 250);
        Desks.cue(x, 0, 0, 1, 7);
        x.setTimes(0, 1, 9, 20);
        x.go(0);
        x.go(0);
        for (int time = 1; time <= 30; time++) {
            x.pass(1);
            float due = 250.0f;
            if (time >= 29) {
                due = 7.0f;
            } else if (time >= 9) {
                due = 250.0f + (7.0f - 250.0f) * ((float) (time - 9) / 20.0f);
            }
            Check.same("at " + time, x.outputBits(0, 1), Float.floatToIntBits(due));
        }
    }

    private static void fadesOfTheShape() {
        Lampboard x = Desks.withLamps(1);
        Desks.cue(x, 0, 0, 3, 10);
        Desks.cue(x, 0, 0, 3, 20);
        x.setTimes(0, 1, 2, 5);
        x.go(0);
        x.go(0);
        Check.same("ahead of the start", x.output(0, 3), 10);
        x.pass(1);
        Check.same("ahead of the start", x.output(0, 3), 10);
        x.pass(1);
        Check.same("at the start", x.output(0, 3), 20);
    }

    private static void fadesFollowTheirEntry() {
        Lampboard x = Desks.withLamps(1);
        x.addPalette(2, 100);
        x.point(0, 0);
        x.record(0);
        x.setTimes(0, 0, 0, 4);
        x.go(0);
        x.pass(2);
        Check.same("half of it", x.output(0, 2), 50);
        x.setPalette(0, 200);
        Check.same("half of the new value", x.output(0, 2), 100);
        x.pass(2);
        Check.same("the end", x.output(0, 2), 200);
        x.setPalette(0, 3);
        Check.same("behind the end, too", x.output(0, 2), 3);
    }

    private static void keptFades() {
        Lampboard x = Desks.withLamps(1);
        Desks.cue(x, 0, 0, 1, 80);
        Desks.cue(x, 0, 0, 2, 10);
        x.setTimes(0, 0, 0, 8);
        x.go(0);
        x.pass(2);
        x.go(0);
        Check.same("the kept fade goes on", x.output(0, 1), 20);
        x.pass(2);
        Check.same("the kept fade goes on", x.output(0, 1), 40);
        x.setAssert(0, 1, true);
        x.setTimes(0, 1, 0, 4);
        x.goTo(0, 1);
        x.pass(1);
        Check.same("a new one by the times of its cue", x.output(0, 1), 50);
    }
}
