import java.util.NoSuchElementException;

/** Promises 13 to 18, 35 to 37, 39 and 44: cues and what they track. */
public final class CueTest {
    public static void main(String[] args) {
        promise13Record();
        promise13Refuses();
        promise14SetTimes();
        promise15SetFollow();
        promise16SetLink();
        promise17SetCode();
        promise18SetAssert();
        promises35To37Tracking();
        promises35To37Refuse();
        promise39Cues();
        promise44MeanStored();
        Check.end();
    }

    private static Lampboard withCue() {
        Lampboard x = Desks.withLamps(1);
        Desks.cue(x, 1, 0, 0, 10);
        return x;
    }

    private static void promise13Record() {
        Lampboard x = Desks.withLamps(2);
        for (int cue = 0; cue < 12; cue++) {
            x.set(0, 0, cue);
            x.set(1, 1, cue);
            Check.same("record", x.record(2), cue);
            Check.same("the programmer is empty", x.clear(), 0);
        }
        Check.same("delay and fade", x.setTimes(2, 11, 1, 1), 0);
        Check.same("no follow", x.setFollow(2, 11, 1), -1);
        Check.same("no link", x.setLink(2, 11, 1), -1);
        Check.same("no code", x.setCode(2, 11, 1), -1);
        Check.is("does not assert", !x.setAssert(2, 11, true));
        Check.same("it stores the entries", x.tracked(2, 7, 1, 1), 7);
        Check.same("no cue began", x.output(0, 0), 0);
        Check.same("other lists stay", x.cues(0) + x.cues(1), 0);
    }

    private static void promise13Refuses() {
        Lampboard x = Desks.withLamps(1);
        Check.refuses("list ahead of programmer", IndexOutOfBoundsException.class, () -> x.record(3));
        Check.refuses("list -1", IndexOutOfBoundsException.class, () -> x.record(-1));
        Check.refuses("empty programmer", UnsupportedOperationException.class, () -> x.record(0));
        for (int cue = 0; cue < 12; cue++) {
            Desks.cue(x, 0, 0, 0, cue);
        }
        Check.refuses("empty programmer ahead of 12 cues", UnsupportedOperationException.class, () -> x.record(0));
        x.set(0, 0, 1);
        Check.refuses("12 cues", IllegalStateException.class, () -> x.record(0));
        Check.same("nothing has changed", x.clear(), 1);
        Check.same("nothing has changed", x.cues(0), 12);
    }

    private static void promise14SetTimes() {
        Lampboard x = withCue();
        Check.same("setTimes", x.setTimes(1, 0, 9, 20), 0);
        Check.same("setTimes", x.setTimes(1, 0, 0, 4), 29);
        x.goTo(1, 0);
        Check.same("the fade runs on as it began", x.setTimes(1, 0, 9, 0), 4);
        x.pass(2);
        Check.same("half of it", x.output(0, 0), 5);
        x.goTo(1, 0);
        x.pass(8);
        Check.same("the new delay", x.output(0, 0), 5);
        x.pass(1);
        Check.same("the new fade", x.output(0, 0), 10);
        Check.refuses("delay -1", IllegalArgumentException.class, () -> x.setTimes(1, 0, -1, 0));
        Check.refuses("delay 10", IllegalArgumentException.class, () -> x.setTimes(1, 0, 10, 0));
        Check.refuses("fade -1", IllegalArgumentException.class, () -> x.setTimes(1, 0, 0, -1));
        Check.refuses("fade 21", IllegalArgumentException.class, () -> x.setTimes(1, 0, 0, 21));
        Check.refuses("list ahead of times", IndexOutOfBoundsException.class, () -> x.setTimes(3, 0, 10, 0));
        Check.refuses("list -1", IndexOutOfBoundsException.class, () -> x.setTimes(-1, 0, 0, 0));
        Check.refuses("cue ahead of times", IndexOutOfBoundsException.class, () -> x.setTimes(1, 1, 0, 21));
        Check.refuses("cue -1", IndexOutOfBoundsException.class, () -> x.setTimes(1, -1, 0, 0));
        Check.same("nothing has changed", x.setTimes(1, 0, 0, 0), 9);
    }

    private static void promise15SetFollow() {
        Lampboard x = withCue();
        Check.same("setFollow", x.setFollow(1, 0, 20), -1);
        Check.same("setFollow", x.setFollow(1, 0, 1), 20);
        Check.same("no follow", x.setFollow(1, 0, -1), 1);
        Check.refuses("follow 0", IllegalArgumentException.class, () -> x.setFollow(1, 0, 0));
        Check.refuses("follow -2", IllegalArgumentException.class, () -> x.setFollow(1, 0, -2));
        Check.refuses("follow 21", IllegalArgumentException.class, () -> x.setFollow(1, 0, 21));
        Check.refuses("list ahead of number", IndexOutOfBoundsException.class, () -> x.setFollow(3, 0, 0));
        Check.refuses("cue ahead of number", IndexOutOfBoundsException.class, () -> x.setFollow(1, 1, 0));
        Check.refuses("a cue of another list", IndexOutOfBoundsException.class, () -> x.setFollow(0, 0, 1));
        Check.same("nothing has changed", x.setFollow(1, 0, 3), -1);
    }

    private static void promise16SetLink() {
        Lampboard x = withCue();
        Check.same("setLink to none that is there", x.setLink(1, 0, 11), -1);
        Check.same("setLink to itself", x.setLink(1, 0, 0), 11);
        Check.same("no link", x.setLink(1, 0, -1), 0);
        Check.refuses("link 12", IllegalArgumentException.class, () -> x.setLink(1, 0, 12));
        Check.refuses("link -2", IllegalArgumentException.class, () -> x.setLink(1, 0, -2));
        Check.refuses("list ahead of number", IndexOutOfBoundsException.class, () -> x.setLink(-1, 0, 12));
        Check.refuses("cue ahead of number", IndexOutOfBoundsException.class, () -> x.setLink(1, 1, 12));
        Check.same("nothing has changed", x.setLink(1, 0, 3), -1);
    }

    private static void promise17SetCode() {
        Lampboard x = withCue();
        Check.same("setCode", x.setCode(1, 0, 999), -1);
        Check.same("setCode", x.setCode(1, 0, 0), 999);
        Check.same("no code", x.setCode(1, 0, -1), 0);
        Check.refuses("code 1000", IllegalArgumentException.class, () -> x.setCode(1, 0, 1000));
        Check.refuses("code -2", IllegalArgumentException.class, () -> x.setCode(1, 0, -2));
        Check.refuses("list ahead of code", IndexOutOfBoundsException.class, () -> x.setCode(3, 0, 1000));
        Check.refuses("cue ahead of code", IndexOutOfBoundsException.class, () -> x.setCode(1, 1, 1000));
        Check.same("nothing has changed", x.setCode(1, 0, 5), -1);
    }

    private static void promise18SetAssert() {
        Lampboard x = withCue();
        Check.is("it did not", !x.setAssert(1, 0, true));
        Check.is("it did", x.setAssert(1, 0, true));
        Check.is("it did", x.setAssert(1, 0, false));
        Check.is("it did not", !x.setAssert(1, 0, false));
        Check.refuses("list 3", IndexOutOfBoundsException.class, () -> x.setAssert(3, 0, true));
        Check.refuses("list -1", IndexOutOfBoundsException.class, () -> x.setAssert(-1, 0, true));
        Check.refuses("cue 1", IndexOutOfBoundsException.class, () -> x.setAssert(1, 1, true));
        Check.refuses("cue -1", IndexOutOfBoundsException.class, () -> x.setAssert(1, -1, true));
        Check.is("nothing has changed", !x.setAssert(1, 0, false));
    }

    private static void promises35To37Tracking() {
        Lampboard x = Desks.withLamps(2);
        x.addPalette(2, 77);
        x.addPalette(2, 78);
        Desks.cue(x, 0, 0, 0, 10);
        x.point(0, 1);
        x.record(0);
        Desks.cue(x, 0, 0, 0, 30);
        Desks.cue(x, 0, 1, 3, 40);
        Check.same("tracked by the cue itself", x.tracked(0, 0, 0, 0), 10);
        Check.same("tracked on", x.tracked(0, 1, 0, 0), 10);
        Check.same("changed", x.tracked(0, 2, 0, 0), 30);
        Check.same("tracked on", x.tracked(0, 3, 0, 0), 30);
        Check.same("source itself", x.source(0, 0, 0, 0), 0);
        Check.same("source ahead", x.source(0, 1, 0, 0), 0);
        Check.same("source changed", x.source(0, 3, 0, 0), 2);
        Check.same("palette", x.tracked(0, 3, 0, 2), 78);
        x.setPalette(1, 99);
        Check.same("palette followed", x.tracked(0, 3, 0, 2), 99);
        Check.same("its number", x.paletteOf(0, 3, 0, 2), 1);
        Check.refuses("a number has no palette", NoSuchElementException.class, () -> x.paletteOf(0, 3, 0, 0));
        Check.refuses("not tracked yet", NoSuchElementException.class, () -> x.tracked(0, 0, 0, 2));
        Check.refuses("not tracked yet", NoSuchElementException.class, () -> x.source(0, 2, 1, 3));
        Check.refuses("not tracked yet", NoSuchElementException.class, () -> x.paletteOf(0, 0, 0, 2));
    }

    private interface Question {
        int ask(int list, int cue, int lamp, int attribute);
    }

    private static void promises35To37Refuse() {
        Lampboard x = withCue();
        Question[] questions = {x::tracked, x::source, x::paletteOf};
        for (Question q : questions) {
            Check.refuses("list 3", IndexOutOfBoundsException.class, () -> q.ask(3, 0, 0, 4));
            Check.refuses("list -1", IndexOutOfBoundsException.class, () -> q.ask(-1, 0, 0, 0));
            Check.refuses("cue 1", IndexOutOfBoundsException.class, () -> q.ask(1, 1, 0, -1));
            Check.refuses("cue -1", IndexOutOfBoundsException.class, () -> q.ask(1, -1, 0, 0));
            Check.refuses("lamp 1", IndexOutOfBoundsException.class, () -> q.ask(1, 0, 1, 4));
            Check.refuses("lamp -1", IndexOutOfBoundsException.class, () -> q.ask(1, 0, -1, 0));
            Check.refuses("attribute 4", IllegalArgumentException.class, () -> q.ask(1, 0, 0, 4));
            Check.refuses("attribute -1", IllegalArgumentException.class, () -> q.ask(1, 0, 0, -1));
            Check.refuses("tracks none", NoSuchElementException.class, () -> q.ask(1, 0, 0, 1));
        }
    }

    private static void promise39Cues() {
        Lampboard x = withCue();
        Check.same("cues", x.cues(1), 1);
        Desks.cue(x, 1, 0, 1, 1);
        Check.same("cues", x.cues(1), 2);
        Check.same("of another list", x.cues(0), 0);
        Check.refuses("list 3", IndexOutOfBoundsException.class, () -> x.cues(3));
        Check.refuses("list -1", IndexOutOfBoundsException.class, () -> x.cues(-1));
    }

    private static void promise44MeanStored() {
        Lampboard x = Desks.withGroup(4);
        Check.refuses("meanStored without cues", ArithmeticException.class, x::meanStored);
        x.fan(0, 0, 1, 1);
        Check.refuses("the programmer is no cue", ArithmeticException.class, x::meanStored);
        x.record(0);
        Check.same("one cue", x.meanStored(), 4.0);
        Desks.cue(x, 1, 0, 0, 1);
        Desks.cue(x, 2, 0, 0, 1);
        Check.same("three lists", x.meanStored(), 2.0);
        Desks.cue(x, 2, 0, 0, 1);
        Desks.cue(x, 2, 0, 0, 1);
        Desks.cue(x, 2, 0, 0, 1);
        x.clear();
        Check.same("not an int", x.meanStored(), 9.0 / 6.0);
        x.goTo(1, 0);
        x.set(0, 1, 1);
        x.set(0, 0, 1);
        x.update(1);
        Check.same("an update stores one more", x.meanStored(), 10.0 / 6.0);
    }
}
