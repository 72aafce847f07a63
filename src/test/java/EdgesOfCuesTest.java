import java.util.NoSuchElementException;

/** The edges of what the terms say of lists, cues and updating; above each test stands its sentence. */
public final class EdgesOfCuesTest {
    public static void main(String[] args) {
        atMostTwelveCues();
        theEntriesOfTheProgrammer();
        aNewCueHasNone();
        theGreatestNumberUpToItsOwn();
        theFirstAndTheLastAttribute();
        setBackToNone();
        meanOfAllLists();
        updateOfNothing();
        updateOfAll();
        updateOfAPaletteThatIsTracked();
        updateByRisingLampsThenAttributes();
        updateOfTheSourceAtTheFirstCue();
        updateWithoutASource();
        updateWithAPalette();
        updateOfOneListAlone();
        noCueBeginsByIt();
        updateInAFade();
        Check.end();
    }

    // "A list has at most 12 cues, numbered from 0 in the order in which they were recorded"
    private static void atMostTwelveCues() {
        Lampboard x = Desks.withLamps(1);
        for (int list = 0; list < 3; list++) {
            int its = list;
            Check.same("an empty list", x.cues(list), 0);
            for (int cue = 0; cue < 12; cue++) {
                Check.same("record", Desks.cue(x, list, 0, 0, 20 * cue + list), cue);
                Check.same("cues", x.cues(list), cue + 1);
            }
            x.set(0, 0, 99);
            Check.refuses("a cue too many", IllegalStateException.class, () -> x.record(its));
            Check.same("cues", x.cues(list), 12);
            Check.same("the entry stays in the programmer", x.clear(), 1);
            Check.same("the last cue stays", x.tracked(list, 11, 0, 0), 220 + list);
            Check.same("the first cue stays", x.tracked(list, 0, 0, 0), list);
            Check.same("the last cue begins", x.goTo(list, 11), 1);
        }
        Check.same("all cues of all lists", x.meanStored(), 1.0);
    }

    // "Records a cue with the entries of the programmer, which is empty then"
    private static void theEntriesOfTheProgrammer() {
        Lampboard x = Desks.withLamps(2);
        x.set(0, 0, 1);
        x.record(0);
        x.set(1, 3, 2);
        x.record(0);
        Check.refuses("an entry of the cue ahead is not stored again", NoSuchElementException.class, () -> x.tracked(0, 0, 1, 3));
        Check.same("it is tracked", x.source(0, 1, 0, 0), 0);
        Check.same("one entry each", x.meanStored(), 1.0);
        x.set(0, 0, 77);
        x.set(0, 0, 78);
        Check.same("the cue stays as it was recorded", x.tracked(0, 0, 0, 0), 1);
        x.record(1);
        Check.same("the last number given", x.tracked(1, 0, 0, 0), 78);
    }

    // "the cue has the delay 0, the fade 0, no follow, link and code, and does not assert"
    private static void aNewCueHasNone() {
        Lampboard x = Desks.withLamps(1);
        Desks.cue(x, 0, 0, 0, 100);
        Desks.cue(x, 0, 0, 1, 100);
        x.go(0);
        Check.same("no delay and no fade", x.output(0, 0), 100);
        Check.is("no fade that is not over", !x.isFading(0));
        x.pass(30);
        Check.same("no follow", x.cueOf(0), 0);
        Check.same("no code", x.code(999), 0);
        Check.same("no link", x.go(0), 1);
        Check.same("it does not assert", x.goTo(0, 1), 1);
    }

    // "the entry stored by the cue with the greatest number, up to its own, that stores one; this cue is the source"
    private static void theGreatestNumberUpToItsOwn() {
        Lampboard x = Desks.withLamps(1);
        for (int cue = 0; cue < 12; cue++) {
            x.set(0, 0, cue);
            x.set(0, 1, 20 + cue);
            if (cue % 11 != 0) {
                x.knockOut(0, 0);
            }
            if (cue != 5) {
                x.knockOut(0, 1);
            }
            if (cue % 11 != 0 && cue != 5) {
                x.set(0, 2, cue);
            }
            x.record(1);
        }
        for (int cue = 0; cue < 12; cue++) {
            int its = cue;
            Check.same("stored by the first and the last", x.source(1, cue, 0, 0), cue == 11 ? 11 : 0);
            Check.same("its value", x.tracked(1, cue, 0, 0), cue == 11 ? 11 : 0);
            if (cue < 5) {
                Check.refuses("not up to its own", NoSuchElementException.class, () -> x.source(1, its, 0, 1));
            } else {
                Check.same("stored in the middle", x.source(1, cue, 0, 1), 5);
                Check.same("its value", x.tracked(1, cue, 0, 1), 25);
            }
        }
        Check.same("its own rather than an earlier one", x.source(1, 4, 0, 2), 4);
        Check.same("an earlier one, without its own", x.source(1, 5, 0, 2), 4);
        Check.refuses("nothing of another list", IndexOutOfBoundsException.class, () -> x.source(0, 0, 0, 0));
    }

    // "for each attribute of each lamp"
    private static void theFirstAndTheLastAttribute() {
        Lampboard x = Desks.withLamps(12);
        Desks.cue(x, 2, 11, 3, 255);
        Desks.cue(x, 2, 0, 0, 254);
        Check.same("the last one", x.tracked(2, 1, 11, 3), 255);
        Check.same("the first one", x.tracked(2, 1, 0, 0), 254);
        Check.refuses("not the one ahead of the last", NoSuchElementException.class, () -> x.tracked(2, 1, 11, 2));
        Check.refuses("not the lamp ahead", NoSuchElementException.class, () -> x.tracked(2, 1, 10, 3));
        Check.refuses("not the one behind the first", NoSuchElementException.class, () -> x.tracked(2, 1, 0, 1));
        Check.refuses("not the next lamp", NoSuchElementException.class, () -> x.tracked(2, 1, 1, 0));
        Check.same("both begin", x.goTo(2, 1), 2);
        Check.same("both end", x.release(2), 2);
    }

    // "or -1 for none", and what is returned is what was set before
    private static void setBackToNone() {
        Lampboard x = Desks.withLamps(1);
        for (int cue = 0; cue < 12; cue++) {
            Desks.cue(x, 0, 0, 0, cue);
        }
        for (int cue : new int[] {0, 11}) {
            Check.same("longest times", x.setTimes(0, cue, 9, 20), 0);
            Check.same("shortest times", x.setTimes(0, cue, 0, 0), 29);
            Check.same("delay alone", x.setTimes(0, cue, 9, 0), 0);
            Check.same("fade alone", x.setTimes(0, cue, 0, 20), 9);
            Check.same("times back", x.setTimes(0, cue, 0, 0), 20);
            Check.same("shortest follow", x.setFollow(0, cue, 1), -1);
            Check.same("longest follow", x.setFollow(0, cue, 20), 1);
            Check.same("no follow", x.setFollow(0, cue, -1), 20);
            Check.same("none twice", x.setFollow(0, cue, -1), -1);
            Check.same("first link", x.setLink(0, cue, 0), -1);
            Check.same("last link", x.setLink(0, cue, 11), 0);
            Check.same("no link", x.setLink(0, cue, -1), 11);
            Check.same("none twice", x.setLink(0, cue, -1), -1);
            Check.same("least code", x.setCode(0, cue, 0), -1);
            Check.same("greatest code", x.setCode(0, cue, 999), 0);
            Check.same("no code", x.setCode(0, cue, -1), 999);
            Check.same("none twice", x.setCode(0, cue, -1), -1);
        }
        Check.same("a cue between has its own", x.setTimes(0, 1, 1, 1), 0);
        Check.same("a cue between has its own", x.setFollow(0, 10, 1), -1);
        x.go(0);
        x.pass(30);
        Check.same("no follow any more", x.cueOf(0), 0);
        Check.same("no code any more", x.code(999), 0);
        Check.same("no link any more", x.go(0), 1);
    }

    // "the sum over all cues of all lists divided by their number, both converted to double"
    private static void meanOfAllLists() {
        Lampboard x = Desks.withGroup(12);
        for (int attribute = 0; attribute < 4; attribute++) {
            x.fan(0, attribute, 0, 255);
        }
        x.record(2);
        Check.same("a full cue of the last list", x.meanStored(), 48.0);
        Desks.cue(x, 0, 0, 0, 1);
        Check.same("with one of the first list", x.meanStored(), 49.0 / 2.0);
        Desks.cue(x, 1, 0, 0, 1);
        Check.same("a third of a number", x.meanStored(), 50.0 / 3.0);
        x.goTo(0, 0);
        x.release(0);
        Check.same("whatever is present", x.meanStored(), 50.0 / 3.0);
    }

    // "Returns the number of entries that the programmer had."
    private static void updateOfNothing() {
        Lampboard x = Desks.withLamps(1);
        Desks.cue(x, 0, 0, 0, 10);
        x.go(0);
        Check.same("an empty programmer", x.update(0), 0);
        Check.same("changes nothing", x.output(0, 0), 10);
        Check.same("stores nothing", x.meanStored(), 1.0);
        x.set(0, 0, 20);
        Check.same("one entry", x.update(0), 1);
        Check.same("the programmer is empty then", x.update(0), 0);
        Check.same("it is stored", x.output(0, 0), 20);
    }

    private static void updateOfAll() {
        Lampboard x = Desks.withLamps(12);
        Desks.cue(x, 2, 5, 2, 10);
        x.go(2);
        for (int slot = 0; slot < 48; slot++) {
            x.set(slot / 4, slot % 4, 200 + slot);
        }
        Check.same("all 48", x.update(2), 48);
        Check.same("the programmer is empty", x.clear(), 0);
        Check.same("all are stored", x.meanStored(), 48.0);
        Check.same("the first", x.tracked(2, 0, 0, 0), 200);
        Check.same("the last", x.tracked(2, 0, 11, 3), 247);
        Check.same("the one that was there", x.valueIn(2, 5, 2), 222);
        Check.refuses("the others have no fade", NoSuchElementException.class, () -> x.valueIn(2, 11, 3));
    }

    // "if the present cue of the list tracks an entry that is a palette, and the one of the programmer is a number, the palette gets
    // this number as its value"
    private static void updateOfAPaletteThatIsTracked() {
        Lampboard x = Desks.withLamps(2);
        x.addPalette(1, 100);
        x.point(0, 0);
        x.record(0);
        x.point(1, 0);
        x.record(0);
        Desks.cue(x, 0, 0, 1, 7);
        x.goTo(0, 1);
        x.set(0, 1, 0);
        Check.same("update", x.update(0), 1);
        Check.same("the palette gets the number 0", x.setPalette(0, 100), 0);
        x.set(0, 1, 255);
        x.update(0);
        Check.same("the palette gets the number 255", x.tracked(0, 1, 1, 1), 255);
        Check.same("stored by the first cue as before", x.paletteOf(0, 1, 0, 1), 0);
        Check.same("with the first cue as source", x.source(0, 1, 0, 1), 0);
        Check.same("nothing more is stored", x.meanStored(), 1.0);
        x.goTo(0, 2);
        x.set(0, 1, 33);
        x.update(0);
        Check.same("a number that is tracked behind a palette", x.tracked(0, 2, 0, 1), 33);
        Check.same("leaves the palette", x.setPalette(0, 255), 255);
    }

    // "by rising lamps, then attributes"
    private static void updateByRisingLampsThenAttributes() {
        Lampboard x = Desks.withLamps(12);
        x.addPalette(2, 1);
        for (int lamp = 0; lamp < 12; lamp++) {
            x.point(lamp, 0);
        }
        x.record(0);
        x.go(0);
        for (int lamp = 11; lamp >= 0; lamp--) {
            x.set(lamp, 2, 100 + lamp);
        }
        x.update(0);
        Check.same("the last lamp's number stays", x.setPalette(0, 1), 111);
        x.set(3, 2, 5);
        x.set(2, 2, 6);
        x.update(0);
        Check.same("the greater lamp's number stays", x.output(11, 2), 5);
    }

    // "otherwise the source ... stores the entry of the programmer"
    private static void updateOfTheSourceAtTheFirstCue() {
        Lampboard x = Desks.withLamps(1);
        Desks.cue(x, 0, 0, 0, 10);
        for (int cue = 1; cue < 12; cue++) {
            Desks.cue(x, 0, 0, 1, cue);
        }
        x.goTo(0, 11);
        x.set(0, 0, 99);
        x.update(0);
        Check.same("the first cue is still the source", x.source(0, 11, 0, 0), 0);
        for (int cue = 0; cue < 12; cue++) {
            Check.same("all that track it", x.tracked(0, cue, 0, 0), 99);
        }
        x.goTo(0, 0);
        x.set(0, 1, 50);
        x.update(0);
        Check.same("a cue behind has its own", x.tracked(0, 1, 0, 1), 1);
    }

    // "or the present cue if there is no source"
    private static void updateWithoutASource() {
        Lampboard x = Desks.withLamps(1);
        Desks.cue(x, 0, 0, 0, 10);
        Desks.cue(x, 0, 0, 0, 11);
        Desks.cue(x, 0, 0, 1, 12);
        x.goTo(0, 1);
        x.set(0, 1, 70);
        x.set(0, 2, 71);
        x.update(0);
        Check.same("the present cue stores it", x.source(0, 1, 0, 1), 1);
        Check.same("and so it is tracked behind it", x.source(0, 2, 0, 2), 1);
        Check.refuses("but not ahead of it", NoSuchElementException.class, () -> x.source(0, 0, 0, 2));
        Check.same("a cue behind that stores one is not its source", x.source(0, 2, 0, 1), 2);
        Check.same("two more are stored", x.meanStored(), 5.0 / 3.0);
    }

    private static void updateWithAPalette() {
        Lampboard x = Desks.withLamps(1);
        x.addPalette(1, 50);
        x.addPalette(1, 60);
        x.addPalette(2, 70);
        Desks.cue(x, 0, 0, 1, 5);
        x.go(0);
        x.point(0, 0);
        x.point(0, 2);
        x.update(0);
        Check.same("in place of a number", x.paletteOf(0, 0, 0, 1), 0);
        Check.same("without a source", x.paletteOf(0, 0, 0, 2), 2);
        x.point(0, 1);
        x.update(0);
        Check.same("in place of another", x.paletteOf(0, 0, 0, 1), 1);
        x.point(0, 1);
        x.update(0);
        Check.same("in place of itself", x.paletteOf(0, 0, 0, 1), 1);
        Check.same("no palette has changed", x.setPalette(0, 0) + x.setPalette(1, 0) + x.setPalette(2, 0), 180);
    }

    private static void updateOfOneListAlone() {
        Lampboard x = Desks.withLamps(1);
        for (int list = 0; list < 3; list++) {
            Desks.cue(x, list, 0, 0, 10 + list);
            x.go(list);
        }
        x.set(0, 0, 200);
        x.update(1);
        Check.same("list 0", x.tracked(0, 0, 0, 0), 10);
        Check.same("list 1", x.tracked(1, 0, 0, 0), 200);
        Check.same("list 2", x.tracked(2, 0, 0, 0), 12);
    }

    // "No cue begins."
    private static void noCueBeginsByIt() {
        Lampboard x = Desks.withLamps(1);
        Desks.cue(x, 0, 0, 1, 10);
        Desks.cue(x, 0, 0, 1, 20);
        Desks.cue(x, 1, 0, 1, 30);
        x.setFollow(0, 0, 4);
        x.go(0);
        x.go(1);
        x.pass(3);
        x.set(0, 1, 15);
        x.update(0);
        Check.same("the fade is not later for it", x.decides(0, 1), 1);
        x.pass(1);
        Check.same("the follow is counted from the beginning", x.cueOf(0), 1);
    }

    private static void updateInAFade() {
        Lampboard x = Desks.withLamps(1);
        Desks.cue(x, 0, 0, 1, 100);
        x.setTimes(0, 0, 1, 4);
        x.go(0);
        x.set(0, 1, 200);
        x.update(0);
        x.pass(1);
        Check.same("at its start", x.output(0, 1), 0);
        x.pass(1);
        Check.same("a quarter of the new entry", x.output(0, 1), 50);
        x.set(0, 1, 40);
        Check.same("the programmer decides until then", x.output(0, 1), 40);
        x.update(0);
        Check.same("a quarter of the newest entry", x.output(0, 1), 10);
        Check.is("it is not over", x.isFading(0));
    }
}
