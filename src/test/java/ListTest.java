import java.util.NoSuchElementException;

/** Promises 19 to 23, 30, 31, 33, 34, 38 and 40: lists, how their cues begin, and what is put out. */
public final class ListTest {
    public static void main(String[] args) {
        promise19SetMaster();
        promise20SetPriority();
        promise21Go();
        promise21GoByLinks();
        promise22GoTo();
        promise22NewFades();
        promise22WhatFadesBeginWith();
        promise22DropsUntracked();
        promise23Release();
        promise38CueOf();
        promise40IsFading();
        Check.end();
    }

    private static void promise19SetMaster() {
        Lampboard x = Desks.withLamps(1);
        x.set(0, 0, 200);
        x.set(0, 1, 200);
        x.record(0);
        x.go(0);
        Check.same("setMaster", x.setMaster(0, 0), 100);
        Check.same("light at 0", x.output(0, 0), 0);
        Check.same("colour stays", x.output(0, 1), 200);
        Check.same("setMaster", x.setMaster(0, 33), 0);
        Check.same("light as a float", x.outputBits(0, 0), Float.floatToIntBits(200.0f * (33.0f / 100.0f)));
        Check.same("without its master", x.valueIn(0, 0, 0), 200);
        x.set(0, 0, 200);
        Check.same("the programmer has no master", x.output(0, 0), 200);
        Check.refuses("master -1", IllegalArgumentException.class, () -> x.setMaster(0, -1));
        Check.refuses("master 101", IllegalArgumentException.class, () -> x.setMaster(0, 101));
        Check.refuses("list ahead of master", IndexOutOfBoundsException.class, () -> x.setMaster(3, 101));
        Check.refuses("list -1", IndexOutOfBoundsException.class, () -> x.setMaster(-1, 0));
        Check.same("nothing has changed", x.setMaster(0, 100), 33);
        Check.same("of each list", x.setMaster(2, 1), 100);
    }

    private static void promise20SetPriority() {
        Lampboard x = Desks.withLamps(1);
        for (int list = 0; list < 3; list++) {
            Desks.cue(x, list, 0, 0, 90 - list);
            x.go(list);
        }
        Check.same("setPriority", x.setPriority(1, 9), 5);
        Check.same("greater priority", x.decides(0, 0), 1);
        Check.same("setPriority", x.setPriority(1, 0), 9);
        Check.same("lower priority", x.decides(0, 0), 0);
        x.setPriority(2, 6);
        Check.same("greater priority", x.output(0, 0), 88);
        Check.refuses("priority -1", IllegalArgumentException.class, () -> x.setPriority(0, -1));
        Check.refuses("priority 10", IllegalArgumentException.class, () -> x.setPriority(0, 10));
        Check.refuses("list ahead of priority", IndexOutOfBoundsException.class, () -> x.setPriority(3, 10));
        Check.refuses("list -1", IndexOutOfBoundsException.class, () -> x.setPriority(-1, 0));
        Check.same("nothing has changed", x.setPriority(0, 5), 5);
    }

    private static void promise21Go() {
        Lampboard x = Desks.withLamps(1);
        Check.refuses("no cue 0", IllegalStateException.class, () -> x.go(0));
        Desks.cue(x, 0, 0, 0, 1);
        Desks.cue(x, 0, 0, 0, 2);
        Check.same("without a present cue", x.go(0), 0);
        Check.same("the next number", x.go(0), 1);
        Check.refuses("none behind the last", IllegalStateException.class, () -> x.go(0));
        Check.same("nothing has changed", x.cueOf(0), 1);
        Check.refuses("list 3", IndexOutOfBoundsException.class, () -> x.go(3));
        Check.refuses("list -1", IndexOutOfBoundsException.class, () -> x.go(-1));
    }

    private static void promise21GoByLinks() {
        Lampboard x = Desks.withLamps(1);
        for (int cue = 0; cue < 3; cue++) {
            Desks.cue(x, 0, 0, 0, cue);
        }
        x.setLink(0, 0, 2);
        x.setLink(0, 2, 0);
        x.setLink(0, 1, 3);
        Check.same("a link has no say without a present cue", x.go(0), 0);
        Check.same("linked on", x.go(0), 2);
        Check.same("linked back", x.go(0), 0);
        x.goTo(0, 1);
        Check.refuses("linked to none, though the next is there", IllegalStateException.class, () -> x.go(0));
        Desks.cue(x, 0, 0, 0, 3);
        Check.same("it is there now", x.go(0), 3);
        x.setLink(0, 3, 3);
        Check.same("linked to itself", x.go(0), 3);
    }

    private static void promise22GoTo() {
        Lampboard x = Desks.withLamps(1);
        Desks.cue(x, 0, 0, 0, 1);
        Desks.cue(x, 0, 0, 1, 2);
        Check.same("goTo", x.goTo(0, 1), 2);
        Check.same("present", x.cueOf(0), 1);
        Check.same("goTo back", x.goTo(0, 0), 1);
        Check.same("goTo itself", x.goTo(0, 0), 1);
        Check.refuses("cue 2", IndexOutOfBoundsException.class, () -> x.goTo(0, 2));
        Check.refuses("cue -1", IndexOutOfBoundsException.class, () -> x.goTo(0, -1));
        Check.refuses("list 3", IndexOutOfBoundsException.class, () -> x.goTo(3, 0));
        Check.refuses("list -1", IndexOutOfBoundsException.class, () -> x.goTo(-1, 0));
        Check.same("nothing has changed", x.cueOf(0), 0);
    }

    private static void promise22NewFades() {
        Lampboard x = Desks.withLamps(2);
        x.set(0, 0, 1);
        x.set(0, 1, 1);
        x.record(0);
        Desks.cue(x, 0, 0, 1, 2);
        Desks.cue(x, 0, 1, 0, 3);
        Check.same("no present cue", x.goTo(0, 0), 2);
        Check.same("stored itself", x.goTo(0, 1), 1);
        Check.same("no entry ahead", x.goTo(0, 2), 1);
        Check.same("another source", x.goTo(0, 0), 2);
        Check.same("another source and none ahead", x.goTo(0, 2), 2);
        x.setAssert(0, 2, true);
        Check.same("asserts", x.goTo(0, 2), 3);
        x.setAssert(0, 0, true);
        Check.same("asserts what it tracks alone", x.goTo(0, 0), 2);
        x.release(0);
        x.setAssert(0, 2, false);
        Check.same("released", x.goTo(0, 2), 3);
    }

    private static void promise22WhatFadesBeginWith() {
        Lampboard x = Desks.withGroup(1);
        Desks.cue(x, 0, 0, 0, 100);
        Desks.cue(x, 0, 0, 0, 0);
        Desks.cue(x, 1, 0, 0, 60);
        for (int cue = 0; cue < 2; cue++) {
            x.setTimes(0, cue, 0, 8);
        }
        x.setTimes(1, 0, 1, 8);
        x.addEffect(0, 0, 'q', 30, 20, 0);
        x.start(0);
        x.setMaster(0, 50);
        x.goTo(0, 0);
        x.pass(1);
        Check.same("a quarter to come, half of it the master's, and an effect", Desks.shown(x, 0, 0), 36.25);
        x.goTo(1, 0);
        Check.same("what is put out without effects", x.valueIn(1, 0, 0), 6);
        x.goTo(0, 1);
        Check.same("what the list has without its master", x.valueIn(0, 0, 0), 12);
        x.pass(4);
        Check.same("half of it on the way down", x.valueIn(0, 0, 0), 6);
        Check.same("from 6.25 towards 60 behind a delay", x.valueIn(1, 0, 0), (int) (6.25f + 53.75f * (3.0f / 8.0f)));
        x.release(1);
        x.set(0, 0, 200);
        x.goTo(1, 0);
        Check.same("what the programmer puts out", x.valueIn(1, 0, 0), 200);
    }

    private static void promise22DropsUntracked() {
        Lampboard x = Desks.withLamps(1);
        Desks.cue(x, 0, 0, 0, 10);
        Desks.cue(x, 0, 0, 1, 20);
        x.goTo(0, 1);
        Check.same("tracked", x.valueIn(0, 0, 1), 20);
        x.goTo(0, 0);
        Check.refuses("no fade any more", NoSuchElementException.class, () -> x.valueIn(0, 0, 1));
        Check.same("nothing is put out", x.output(0, 1), 0);
        x.setTimes(0, 1, 0, 4);
        x.goTo(0, 1);
        x.pass(1);
        Check.same("it begins with nothing", x.output(0, 1), 5);
    }

    private static void promise23Release() {
        Lampboard x = Desks.withLamps(2);
        Desks.cue(x, 0, 0, 0, 10);
        x.set(0, 1, 5);
        x.set(1, 3, 20);
        x.record(0);
        Desks.cue(x, 1, 0, 0, 7);
        Check.refuses("no present cue", IllegalStateException.class, () -> x.release(0));
        x.goTo(0, 1);
        x.goTo(1, 0);
        Check.same("release", x.release(0), 3);
        Check.refuses("no present cue", NoSuchElementException.class, () -> x.cueOf(0));
        Check.refuses("no fade", NoSuchElementException.class, () -> x.valueIn(0, 0, 0));
        Check.is("no fade", !x.isFading(0));
        Check.same("another list stays", x.output(0, 0), 7);
        Check.same("nothing is put out", x.output(1, 3), 0);
        Check.refuses("released", IllegalStateException.class, () -> x.release(0));
        Check.refuses("list 3", IndexOutOfBoundsException.class, () -> x.release(3));
        Check.refuses("list -1", IndexOutOfBoundsException.class, () -> x.release(-1));
        Check.same("go on from the beginning", x.go(0), 0);
        Check.same("release of less", x.release(0), 1);
    }

    private static void promise38CueOf() {
        Lampboard x = Desks.withLamps(1);
        Desks.cue(x, 2, 0, 0, 1);
        Desks.cue(x, 2, 0, 0, 1);
        Check.refuses("none", NoSuchElementException.class, () -> x.cueOf(2));
        x.goTo(2, 1);
        Check.same("cueOf", x.cueOf(2), 1);
        Check.refuses("list 3", IndexOutOfBoundsException.class, () -> x.cueOf(3));
        Check.refuses("list -1", IndexOutOfBoundsException.class, () -> x.cueOf(-1));
    }

    private static void promise40IsFading() {
        Lampboard x = Desks.withLamps(1);
        Desks.cue(x, 0, 0, 0, 0);
        Desks.cue(x, 0, 0, 3, 0);
        Check.is("no fade", !x.isFading(0));
        x.goTo(0, 0);
        Check.is("a fade without time is over", !x.isFading(0));
        x.setTimes(0, 0, 2, 0);
        x.goTo(0, 0);
        Check.is("start not reached", x.isFading(0));
        x.pass(1);
        Check.is("start not reached", x.isFading(0));
        x.pass(1);
        Check.is("over at the start", !x.isFading(0));
        x.setTimes(0, 1, 1, 2);
        x.goTo(0, 1);
        x.pass(2);
        Check.is("the shape, too, though its value has changed", x.isFading(0));
        x.pass(1);
        Check.is("as much time as it takes", !x.isFading(0));
        Check.is("of another list", !x.isFading(1));
        Check.refuses("list 3", IndexOutOfBoundsException.class, () -> x.isFading(3));
        Check.refuses("list -1", IndexOutOfBoundsException.class, () -> x.isFading(-1));
    }
}
