import java.util.NoSuchElementException;

/** Promise 24: the programmer is updated into the cues that its entries come from. */
public final class UpdateTest {
    public static void main(String[] args) {
        refuses();
        intoTheSource();
        intoThePresentCue();
        intoAPalette();
        aPaletteInPlaceOfOne();
        intoAPaletteTwice();
        noFadeComesOfIt();
        Check.end();
    }

    private static void refuses() {
        Lampboard x = Desks.withLamps(1);
        Check.refuses("list 3", IndexOutOfBoundsException.class, () -> x.update(3));
        Check.refuses("list -1", IndexOutOfBoundsException.class, () -> x.update(-1));
        Desks.cue(x, 0, 0, 0, 1);
        x.set(0, 0, 2);
        Check.refuses("no present cue", IllegalStateException.class, () -> x.update(0));
        Check.same("nothing has changed", x.clear(), 1);
        x.go(0);
        Check.same("an empty programmer", x.update(0), 0);
        x.release(0);
        Check.refuses("released", IllegalStateException.class, () -> x.update(0));
    }

    private static void intoTheSource() {
        Lampboard x = Desks.withLamps(2);
        Desks.cue(x, 0, 0, 0, 10);
        Desks.cue(x, 0, 1, 0, 20);
        x.goTo(0, 1);
        x.set(0, 0, 11);
        x.set(1, 0, 21);
        Check.same("update", x.update(0), 2);
        Check.same("the programmer is empty", x.clear(), 0);
        Check.same("the source has it", x.tracked(0, 0, 0, 0), 11);
        Check.same("it is the source as before", x.source(0, 1, 0, 0), 0);
        Check.same("the present cue as source", x.tracked(0, 1, 1, 0), 21);
        Check.same("what is put out follows", x.output(0, 0), 11);
        Check.same("no entry is new", x.meanStored(), 1.0);
    }

    private static void intoThePresentCue() {
        Lampboard x = Desks.withLamps(1);
        Desks.cue(x, 0, 0, 0, 10);
        Desks.cue(x, 0, 0, 0, 20);
        Desks.cue(x, 0, 0, 1, 30);
        x.goTo(0, 1);
        x.set(0, 1, 7);
        x.update(0);
        Check.same("the present cue stores it", x.source(0, 1, 0, 1), 1);
        Check.refuses("the cue ahead does not", NoSuchElementException.class, () -> x.source(0, 0, 0, 1));
        Check.same("a cue behind keeps its own", x.tracked(0, 2, 0, 1), 30);
    }

    private static void intoAPalette() {
        Lampboard x = Desks.withLamps(1);
        x.addPalette(1, 70);
        x.point(0, 0);
        x.record(0);
        Desks.cue(x, 0, 0, 0, 1);
        x.goTo(0, 1);
        x.set(0, 1, 33);
        Check.same("update", x.update(0), 1);
        Check.same("the palette has the number", x.setPalette(0, 34), 33);
        Check.same("the cue still has the palette", x.paletteOf(0, 0, 0, 1), 0);
        Check.same("and its value", x.valueIn(0, 0, 1), 34);
    }

    private static void aPaletteInPlaceOfOne() {
        Lampboard x = Desks.withLamps(1);
        x.addPalette(1, 70);
        x.addPalette(1, 80);
        x.point(0, 0);
        x.record(0);
        Desks.cue(x, 0, 0, 2, 5);
        x.addPalette(2, 90);
        x.goTo(0, 1);
        x.point(0, 1);
        x.point(0, 2);
        Check.same("update", x.update(0), 2);
        Check.same("a palette for a palette", x.paletteOf(0, 0, 0, 1), 1);
        Check.same("a palette for a number", x.paletteOf(0, 1, 0, 2), 2);
        Check.same("the old palette stays", x.setPalette(0, 1), 70);
        Check.same("the new palette stays", x.setPalette(1, 1), 80);
    }

    private static void intoAPaletteTwice() {
        Lampboard x = Desks.withGroup(3);
        x.addPalette(1, 70);
        for (int lamp = 0; lamp < 3; lamp++) {
            x.point(lamp, 0);
        }
        x.record(0);
        x.go(0);
        x.fan(0, 1, 30, 10);
        x.update(0);
        Check.same("the last one by rising lamps stays", x.setPalette(0, 0), 10);
    }

    private static void noFadeComesOfIt() {
        Lampboard x = Desks.withLamps(1);
        Desks.cue(x, 0, 0, 0, 10);
        Desks.cue(x, 0, 0, 0, 11);
        x.setTimes(0, 0, 0, 10);
        x.goTo(0, 0);
        x.pass(5);
        x.set(0, 1, 40);
        x.update(0);
        Check.same("no cue begins", x.valueIn(0, 0, 0), 5);
        Check.refuses("a new entry has no fade", NoSuchElementException.class, () -> x.valueIn(0, 0, 1));
        Check.same("the same source has no new fade", x.goTo(0, 1), 1);
        Check.refuses("so there is none to keep", NoSuchElementException.class, () -> x.valueIn(0, 0, 1));
        Check.same("stored by the cue itself", x.goTo(0, 0), 2);
        Check.is("and what is tracked is sound", x.isSound());
    }
}
