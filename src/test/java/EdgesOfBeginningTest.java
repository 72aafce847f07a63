import java.util.NoSuchElementException;

/** The edges of what the terms say of how a cue begins; above each test stands its sentence. */
public final class EdgesOfBeginningTest {
    public static void main(String[] args) {
        newIfTheCueStoresItItself();
        newIfTheCueAsserts();
        newIfThereWasNoPresentCue();
        newIfThePresentCueTrackedNone();
        newIfItTrackedAnotherSource();
        otherwiseKept();
        keptWithoutAFade();
        noFadeAnyMore();
        behindTheDelay();
        asLongAsTheFadeOfTheCue();
        beginsWithTheValueOfTheList();
        beginsWithWhatTheListHasAheadOfItsStart();
        beginsWithTheProgrammer();
        beginsWithAnotherList();
        beginsWithoutEffects();
        beginsWithNothing();
        beginsWithoutItsOwnMaster();
        laterThanAllAheadOfIt();
        allNewFadesOfACue();
        beginsAtTheEndOfTime();
        Check.end();
    }

    private static Lampboard withFirstCue() {
        Lampboard x = Desks.withLamps(2);
        x.addPalette(1, 90);
        Desks.cue(x, 0, 0, 1, 100);
        x.setTimes(0, 0, 0, 10);
        return x;
    }

    // "gets a new fade if the cue stores it itself"
    private static void newIfTheCueStoresItItself() {
        Lampboard x = withFirstCue();
        Check.same("first", x.goTo(0, 0), 1);
        x.pass(5);
        Check.same("again, from the same source", x.goTo(0, 0), 1);
        Check.same("it begins with what it had", x.output(0, 1), 50);
        x.pass(5);
        Check.same("half of the rest", x.output(0, 1), 75);
    }

    // "or asserts"
    private static void newIfTheCueAsserts() {
        Lampboard x = withFirstCue();
        Desks.cue(x, 0, 0, 2, 30);
        x.setTimes(0, 1, 0, 2);
        x.goTo(0, 0);
        x.pass(5);
        x.setAssert(0, 1, true);
        Check.same("its own and the one that is tracked", x.goTo(0, 1), 2);
        x.pass(1);
        Check.same("by the fade of the cue that asserts", x.output(0, 1), 75);
        x.setAssert(0, 1, false);
        Check.same("its own alone", x.goTo(0, 1), 1);
        x.pass(1);
        Check.same("as the kept one goes on", x.output(0, 1), 100);
        x.setAssert(0, 0, true);
        Check.same("a cue that asserts has none for what it does not track", x.goTo(0, 0), 1);
    }

    // "or there was no present cue"
    private static void newIfThereWasNoPresentCue() {
        Lampboard x = withFirstCue();
        Desks.cue(x, 0, 1, 1, 30);
        Check.same("on a new list", x.goTo(0, 1), 2);
        Check.same("kept", x.goTo(0, 1), 1);
        x.release(0);
        Check.same("behind a release", x.goTo(0, 1), 2);
    }

    // "or one that tracked no entry for it"
    private static void newIfThePresentCueTrackedNone() {
        Lampboard x = withFirstCue();
        Desks.cue(x, 0, 0, 2, 30);
        Desks.cue(x, 0, 0, 3, 40);
        x.goTo(0, 0);
        Check.same("one that the cue between stores, and its own", x.goTo(0, 2), 2);
        Check.same("kept are both but its own", x.goTo(0, 2), 1);
        Check.same("back to the first", x.goTo(0, 0), 1);
        Check.same("and on again", x.goTo(0, 2), 2);
    }

    // "or tracked one with another source"
    private static void newIfItTrackedAnotherSource() {
        Lampboard x = withFirstCue();
        Desks.cue(x, 0, 0, 2, 30);
        Desks.cue(x, 0, 0, 1, 100);
        Desks.cue(x, 0, 0, 3, 40);
        x.goTo(0, 1);
        Check.same("forwards, the same number from another source", x.goTo(0, 3), 2);
        Check.same("back, where the first cue is the source", x.goTo(0, 1), 2);
        x.setTimes(0, 3, 0, 10);
        x.pass(20);
        x.goTo(0, 3);
        Check.same("of the same number it has its value all the time", x.output(0, 1), 100);
        Check.is("but it is a fade that is not over", x.isFading(0));
    }

    // "otherwise it keeps its fade"
    private static void otherwiseKept() {
        Lampboard x = withFirstCue();
        Desks.cue(x, 0, 1, 1, 30);
        Desks.cue(x, 1, 0, 1, 7);
        x.setTimes(0, 0, 2, 10);
        x.setTimes(0, 1, 9, 20);
        x.goTo(0, 0);
        x.goTo(1, 0);
        x.pass(1);
        Check.same("its own alone is new", x.goTo(0, 1), 1);
        Check.same("it is no later than it was", x.decides(0, 1), 1);
        x.pass(1);
        Check.same("its start", x.valueIn(0, 0, 1), 0);
        x.pass(1);
        Check.same("a tenth", x.valueIn(0, 0, 1), 10);
        x.pass(9);
        Check.same("its end", x.valueIn(0, 0, 1), 100);
        Check.same("the new one has waited and gone a tenth", x.valueIn(0, 1, 1), 3);
    }

    private static void keptWithoutAFade() {
        Lampboard x = withFirstCue();
        Desks.cue(x, 0, 1, 1, 30);
        x.goTo(0, 0);
        x.set(0, 3, 55);
        x.update(0);
        Check.same("stored by the source, which is the present cue", x.goTo(0, 1), 1);
        Check.refuses("there was none to keep", NoSuchElementException.class, () -> x.valueIn(0, 0, 3));
        Check.same("though it is tracked", x.tracked(0, 1, 0, 3), 55);
        Check.refuses("and nobody decides", NoSuchElementException.class, () -> x.decides(0, 3));
        Check.same("fades that the list had", x.release(0), 2);
        Check.same("all are new then", x.goTo(0, 1), 3);
    }

    // "An attribute that it does not track has no fade in the list any more."
    private static void noFadeAnyMore() {
        Lampboard x = withFirstCue();
        x.set(0, 0, 1);
        x.set(1, 3, 2);
        x.record(0);
        x.goTo(0, 1);
        Check.same("all three", x.valueIn(0, 0, 1) + x.valueIn(0, 0, 0) + x.valueIn(0, 1, 3), 100 + 1 + 2);
        x.goTo(0, 0);
        Check.refuses("the light", NoSuchElementException.class, () -> x.valueIn(0, 0, 0));
        Check.refuses("the other lamp's shape", NoSuchElementException.class, () -> x.valueIn(0, 1, 3));
        Check.refuses("nobody decides it", NoSuchElementException.class, () -> x.decides(1, 3));
        Check.same("one is left", x.release(0), 1);
    }

    // "A new fade starts behind the delay of the cue, counted from the present time"
    private static void behindTheDelay() {
        for (int delay = 0; delay <= 9; delay++) {
            Lampboard x = withFirstCue();
            x.setTimes(0, 0, delay, 0);
            x.pass(17);
            x.go(0);
            for (int passed = 0; passed <= 10; passed++) {
                Check.same("delay " + delay + ", passed " + passed, x.output(0, 1), passed < delay ? 0 : 100);
                Check.is("delay " + delay + ", passed " + passed, x.isFading(0) == passed < delay);
                x.pass(1);
            }
        }
    }

    // "and takes as long as the fade of the cue"; "for when it begins next"
    private static void asLongAsTheFadeOfTheCue() {
        for (int fade = 0; fade <= 20; fade++) {
            Lampboard x = withFirstCue();
            x.setTimes(0, 0, 0, fade);
            x.pass(3);
            x.go(0);
            x.setTimes(0, 0, 9, (fade + 7) % 21);
            for (int passed = 0; passed <= 21; passed++) {
                float due = passed >= fade ? 100.0f : 100.0f * ((float) passed / (float) fade);
                Check.same("fade " + fade + ", passed " + passed, Desks.shown(x, 0, 1), due);
                Check.is("fade " + fade + ", passed " + passed, x.isFading(0) == passed < fade);
                x.pass(1);
            }
        }
    }

    // "it begins with the value that the list has for the attribute at that time"
    private static void beginsWithTheValueOfTheList() {
        for (int passed = 0; passed <= 11; passed++) {
            Lampboard x = withFirstCue();
            Desks.cue(x, 0, 0, 1, 0);
            x.setTimes(0, 1, 1, 0);
            Desks.cue(x, 1, 0, 1, 222);
            x.setPriority(1, 9);
            x.go(0);
            x.go(1);
            x.set(0, 1, 111);
            for (int step = 0; step < passed; step++) {
                x.pass(1);
            }
            x.go(0);
            x.clear();
            x.release(1);
            Check.same("whoever decides, passed " + passed, x.output(0, 1), 10 * Math.min(10, passed));
        }
        Lampboard y = withFirstCue();
        y.setTimes(0, 0, 0, 7);
        Desks.cue(y, 0, 0, 1, 10);
        y.setTimes(0, 1, 0, 3);
        y.go(0);
        y.pass(1);
        float first = 100.0f * (1.0f / 7.0f);
        y.go(0);
        y.pass(1);
        Check.same("from a float", Desks.shown(y, 0, 1), first + (10.0f - first) * (1.0f / 3.0f));
    }

    private static void beginsWithWhatTheListHasAheadOfItsStart() {
        Lampboard x = withFirstCue();
        x.setTimes(0, 0, 9, 5);
        x.set(0, 1, 60);
        x.go(0);
        x.clear();
        x.pass(8);
        Check.same("what the programmer put out", x.output(0, 1), 60);
        x.goTo(0, 0);
        x.pass(8);
        Check.same("still the same, as its start was not reached", x.output(0, 1), 60);
        x.pass(2);
        Check.same("a fifth of the way", x.output(0, 1), 68);
    }

    // "or else with what is put out for it, by the programmer, too"
    private static void beginsWithTheProgrammer() {
        Lampboard x = withFirstCue();
        Desks.cue(x, 1, 0, 1, 10);
        x.go(1);
        x.set(0, 1, 200);
        x.go(0);
        Check.same("its number rather than the other list's value", x.valueIn(0, 0, 1), 200);
        x.pass(5);
        Check.same("half of the way", x.valueIn(0, 0, 1), 150);
        x.release(0);
        x.point(0, 0);
        x.go(0);
        x.setPalette(0, 5);
        Check.same("its palette, as it was then", x.valueIn(0, 0, 1), 90);
        x.release(0);
        x.set(0, 1, 0);
        x.go(0);
        x.clear();
        Check.same("its number 0, too", x.valueIn(0, 0, 1), 0);
    }

    private static void beginsWithAnotherList() {
        Lampboard x = withFirstCue();
        Desks.cue(x, 2, 0, 1, 20);
        Desks.cue(x, 1, 0, 1, 30);
        x.go(2);
        x.go(1);
        x.go(0);
        Check.same("of the latest", x.valueIn(0, 0, 1), 30);
        x.release(0);
        x.setPriority(2, 6);
        x.go(0);
        Check.same("of the greatest priority", x.valueIn(0, 0, 1), 20);
        Lampboard y = Desks.withLamps(1);
        Desks.cue(y, 0, 0, 0, 200);
        Desks.cue(y, 1, 0, 0, 150);
        Desks.cue(y, 2, 0, 0, 0);
        y.setTimes(2, 0, 0, 4);
        y.setMaster(0, 50);
        y.go(0);
        y.go(1);
        y.go(2);
        Check.same("the greatest light with its master", y.valueIn(2, 0, 0), 150);
        y.setMaster(1, 33);
        y.release(2);
        y.go(2);
        Check.same("the greatest light with its master", y.valueIn(2, 0, 0), 100);
    }

    // "but without effects"
    private static void beginsWithoutEffects() {
        Lampboard x = Desks.withGroup(1);
        Desks.cue(x, 0, 0, 1, 0);
        x.setTimes(0, 0, 0, 2);
        x.addEffect(0, 1, 'q', 80, 20, 0);
        x.start(0);
        x.go(0);
        Check.same("nothing but the effect", x.valueIn(0, 0, 1), 0);
        x.release(0);
        x.set(0, 1, 40);
        x.go(0);
        x.clear();
        x.pass(1);
        Check.same("half of the programmer's number", x.valueIn(0, 0, 1), 20);
        Check.same("what is put out has it added", x.output(0, 1), 100);
        x.goTo(0, 0);
        Check.same("the list's value without it", x.valueIn(0, 0, 1), 20);
    }

    private static void beginsWithNothing() {
        Lampboard x = withFirstCue();
        x.setPriority(0, 9);
        x.go(0);
        Check.same("0", x.valueIn(0, 0, 1), 0);
        x.pass(5);
        x.release(0);
        x.go(0);
        Check.same("0 behind a release", x.valueIn(0, 0, 1), 0);
    }

    // "the value that the list has", to which its master does not belong
    private static void beginsWithoutItsOwnMaster() {
        Lampboard x = Desks.withLamps(1);
        Desks.cue(x, 0, 0, 0, 200);
        x.go(0);
        x.setMaster(0, 10);
        x.setTimes(0, 0, 5, 5);
        x.goTo(0, 0);
        Check.same("the list's value", x.valueIn(0, 0, 0), 200);
        Check.same("with its master once", x.outputBits(0, 0), Float.floatToIntBits(200.0f * (10.0f / 100.0f)));
    }

    // "All new fades of a cue are later than all that began ahead of it."
    private static void laterThanAllAheadOfIt() {
        Lampboard x = Desks.withLamps(1);
        for (int list = 0; list < 3; list++) {
            Desks.cue(x, list, 0, 1, 50 + list);
        }
        x.setTimes(1, 0, 9, 20);
        for (int[] order : new int[][] {{0, 1, 2}, {2, 1, 0}, {1, 0, 2}, {2, 0, 1}, {0, 2, 1}, {1, 2, 0}}) {
            for (int list : order) {
                x.goTo(list, 0);
                Check.same("begun at last, though its start may be to come", x.decides(0, 1), list);
            }
        }
    }

    private static void allNewFadesOfACue() {
        Lampboard x = Desks.withLamps(12);
        for (int slot = 0; slot < 48; slot++) {
            x.set(slot / 4, slot % 4, 9);
        }
        x.record(1);
        for (int slot = 0; slot < 48; slot++) {
            x.set(slot / 4, slot % 4, 8);
        }
        x.record(0);
        Check.same("a full cue", x.goTo(0, 0), 48);
        Check.same("another one", x.goTo(1, 0), 48);
        for (int lamp = 0; lamp < 12; lamp++) {
            Check.same("colour is decided by the latest", x.decides(lamp, 1), 1);
            Check.same("shape is decided by the latest", x.decides(lamp, 3), 1);
        }
        Check.same("the first one once more", x.goTo(0, 0), 48);
        Check.same("it is the latest", x.decides(0, 1), 0);
        Check.same("for the last one, too", x.decides(11, 3), 0);
    }

    private static void beginsAtTheEndOfTime() {
        Lampboard x = withFirstCue();
        x.setTimes(0, 0, 9, 20);
        for (int turn = 0; turn < 166; turn++) {
            x.pass(30);
        }
        x.pass(20);
        Check.same("a cue begins at 5000", x.go(0), 0);
        Check.is("its start is never reached", x.isFading(0));
        Check.same("so it has what it began with", x.output(0, 1), 0);
        Check.is("sound", x.isSound());
    }
}
