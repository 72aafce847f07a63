/** The edges of what the terms say of time that goes on, of follows, links and codes; above each test stands its sentence. */
public final class EdgesOfStepsTest {
    public static void main(String[] args) {
        theNextCue();
        theNextCueByALink();
        theCueZero();
        stepByStep();
        asManyStepsAgo();
        followSetWhileTheCueIsPresent();
        followWithoutANext();
        followInARing();
        followToItself();
        followOfACueThatBeganByAnotherWay();
        followAtItsStep();
        listsInOneStep();
        timeAtItsEnd();
        codesAtTheirEdges();
        codeNotGreater();
        ofSeveralTheLowestNumber();
        notThePresentOne();
        listsWithACode();
        codeInAListThatIsFull();
        Check.end();
    }

    private static Lampboard withCues(int list, int cues) {
        Lampboard x = Desks.withLamps(1);
        for (int cue = 0; cue < cues; cue++) {
            Desks.cue(x, list, 0, 1, 10 + cue);
        }
        return x;
    }

    // "or without a link the one with the next number"
    private static void theNextCue() {
        Lampboard x = withCues(1, 12);
        for (int cue = 0; cue < 12; cue++) {
            Check.same("go", x.go(1), cue);
            Check.same("cueOf", x.cueOf(1), cue);
            Check.same("its entry", x.output(0, 1), 10 + cue);
        }
        Check.refuses("behind the last of twelve", IllegalStateException.class, () -> x.go(1));
        Check.same("it is still present", x.cueOf(1), 11);
        Check.same("goTo the first", x.goTo(1, 0), 1);
        Check.same("go on from there", x.go(1), 1);
    }

    // "the one to which it is linked, if it is there"
    private static void theNextCueByALink() {
        Lampboard x = withCues(0, 11);
        x.goTo(0, 5);
        for (int to = 0; to <= 10; to++) {
            x.setLink(0, 5, to);
            Check.same("linked to " + to, x.go(0), to);
            x.goTo(0, 5);
        }
        x.setLink(0, 5, 11);
        Check.refuses("linked to one that is not there", IllegalStateException.class, () -> x.go(0));
        Check.same("the present one stays", x.cueOf(0), 5);
        Desks.cue(x, 0, 0, 1, 99);
        Check.same("it is there now", x.go(0), 11);
        x.setLink(0, 11, 0);
        Check.same("the last one is linked to the first", x.go(0), 0);
        x.setLink(0, 5, -1);
        x.goTo(0, 5);
        Check.same("no link any more", x.go(0), 6);
    }

    // "without a present cue, it is the cue 0"
    private static void theCueZero() {
        Lampboard x = withCues(2, 2);
        Check.refuses("a list without cues", IllegalStateException.class, () -> x.go(0));
        x.setLink(2, 0, 1);
        Check.same("on a list that has not begun", x.go(2), 0);
        x.go(2);
        x.release(2);
        Check.same("on a released list", x.go(2), 0);
        x.setFollow(2, 0, 1);
        x.release(2);
        x.pass(30);
        Check.refuses("no follow without a present cue", java.util.NoSuchElementException.class, () -> x.cueOf(2));
    }

    // "Lets time go on, step by step."
    private static void stepByStep() {
        Lampboard x = withCues(0, 12);
        Lampboard y = withCues(0, 12);
        for (int cue = 0; cue < 12; cue++) {
            x.setFollow(0, cue, 1 + cue % 4);
            y.setFollow(0, cue, 1 + cue % 4);
            x.setTimes(0, cue, cue % 2, 5);
            y.setTimes(0, cue, cue % 2, 5);
        }
        x.go(0);
        y.go(0);
        Check.same("30 steps at once", x.pass(30), 30);
        for (int step = 1; step <= 30; step++) {
            Check.same("one step", y.pass(1), step);
        }
        Check.same("the same cue", x.cueOf(0), y.cueOf(0));
        Check.same("11 follows take 1 + 2 + 3 + 4 + 1 + .. + 3 steps", x.cueOf(0), 11);
        Check.same("the same value", x.outputBits(0, 1), y.outputBits(0, 1));
    }

    // "if the present cue has a follow, and began as many steps ago"
    private static void asManyStepsAgo() {
        for (int follow = 1; follow <= 20; follow++) {
            Lampboard x = withCues(1, 2);
            x.setFollow(1, 0, follow);
            x.pass(7);
            x.go(1);
            Check.same("no step, no follow", x.cueOf(1), 0);
            for (int step = 1; step <= 21; step++) {
                x.pass(1);
                Check.same("follow " + follow + ", step " + step, x.cueOf(1), step < follow ? 0 : 1);
            }
        }
    }

    private static void followSetWhileTheCueIsPresent() {
        Lampboard x = withCues(0, 2);
        x.go(0);
        x.pass(3);
        x.setFollow(0, 0, 3);
        x.pass(17);
        Check.same("as many steps have gone when it is set", x.cueOf(0), 0);
        x.setFollow(0, 0, 20);
        x.pass(10);
        Check.same("the most steps have gone when it is set", x.cueOf(0), 0);
        x.goTo(0, 0);
        x.pass(3);
        x.setFollow(0, 0, 4);
        x.pass(1);
        Check.same("one step more", x.cueOf(0), 1);
        x.goTo(0, 0);
        x.pass(3);
        x.setFollow(0, 0, -1);
        x.pass(1);
        Check.same("taken back just ahead of it", x.cueOf(0), 0);
    }

    // "its next one begins, if there is one"
    private static void followWithoutANext() {
        Lampboard x = withCues(0, 2);
        x.setFollow(0, 1, 2);
        x.setTimes(0, 1, 0, 20);
        x.goTo(0, 1);
        x.pass(2);
        Check.same("none behind the last", x.cueOf(0), 1);
        Desks.cue(x, 0, 0, 1, 50);
        x.pass(1);
        Check.same("and not a step later", x.cueOf(0), 1);
        x.setLink(0, 1, 11);
        x.goTo(0, 1);
        x.pass(2);
        Check.same("linked to none", x.cueOf(0), 1);
        x.goTo(0, 1);
        x.setLink(0, 1, -1);
        x.pass(1);
        Check.same("not yet", x.cueOf(0), 1);
        x.pass(1);
        Check.same("the one that is there now", x.cueOf(0), 2);
    }

    private static void followInARing() {
        Lampboard x = withCues(2, 3);
        for (int cue = 0; cue < 3; cue++) {
            x.setFollow(2, cue, 1);
        }
        x.setLink(2, 2, 0);
        x.go(2);
        for (int step = 1; step <= 7; step++) {
            x.pass(1);
            Check.same("step " + step, x.cueOf(2), step % 3);
        }
        x.pass(30);
        Check.same("30 steps more", x.cueOf(2), 37 % 3);
    }

    private static void followToItself() {
        Lampboard x = Desks.withLamps(1);
        Desks.cue(x, 0, 0, 1, 128);
        x.setTimes(0, 0, 0, 4);
        x.setLink(0, 0, 0);
        x.setFollow(0, 0, 2);
        x.go(0);
        x.pass(2);
        Check.same("half, and it begins anew", x.output(0, 1), 64);
        x.pass(1);
        Check.same("a quarter of the rest", x.output(0, 1), 80);
        x.pass(1);
        Check.same("half of the rest, and it begins anew", x.output(0, 1), 96);
        x.pass(2);
        Check.same("half of the rest", x.output(0, 1), 112);
    }

    private static void followOfACueThatBeganByAnotherWay() {
        Lampboard x = withCues(0, 4);
        for (int cue = 0; cue < 4; cue++) {
            x.setFollow(0, cue, 3);
        }
        x.setCode(0, 1, 5);
        x.pass(2);
        x.code(5);
        x.pass(2);
        Check.same("by a code, not yet", x.cueOf(0), 1);
        Check.same("the code comes again, and nothing begins", x.code(6), 0);
        x.pass(1);
        Check.same("by a code", x.cueOf(0), 2);
        x.pass(2);
        Check.same("by a follow, not yet", x.cueOf(0), 2);
        x.goTo(0, 2);
        x.pass(2);
        Check.same("by itself again, not yet", x.cueOf(0), 2);
        x.pass(1);
        Check.same("by itself again", x.cueOf(0), 3);
    }

    private static void followAtItsStep() {
        Lampboard x = withCues(0, 2);
        x.setFollow(0, 0, 10);
        x.setTimes(0, 1, 2, 4);
        x.go(0);
        x.pass(13);
        Check.same("its fade began at 10 and started at 12", x.outputBits(0, 1), Float.floatToIntBits(10.25f));
        Check.is("it goes on", x.isFading(0));
        x.pass(3);
        Check.is("to 16", !x.isFading(0));
    }

    // "the lists are gone through by rising numbers"
    private static void listsInOneStep() {
        Lampboard x = Desks.withLamps(1);
        for (int list = 0; list < 3; list++) {
            Desks.cue(x, list, 0, 1, 1);
            Desks.cue(x, list, 0, 2, 100 + list);
            x.setFollow(list, 0, 3 - list);
            x.setTimes(list, 1, 1, 0);
        }
        x.goTo(0, 0);
        x.pass(1);
        x.goTo(1, 0);
        x.pass(1);
        x.goTo(2, 0);
        x.set(0, 2, 9);
        x.pass(1);
        x.clear();
        Check.same("all follow in one step", x.cueOf(0) + x.cueOf(1) + x.cueOf(2), 3);
        Check.same("list 2 is the latest", x.decides(0, 2), 2);
        Check.same("all began with the programmer", x.valueIn(0, 0, 2) + x.valueIn(1, 0, 2) + x.valueIn(2, 0, 2), 27);
        x.pass(1);
        Check.same("values", x.output(0, 2), 102);
    }

    // "Throws IllegalStateException if the time would be greater than 5000"
    private static void timeAtItsEnd() {
        Lampboard x = withCues(0, 3);
        for (int turn = 0; turn < 166; turn++) {
            x.pass(30);
        }
        x.setFollow(0, 0, 20);
        x.setFollow(0, 1, 1);
        x.go(0);
        Check.refuses("one step too many", IllegalStateException.class, () -> x.pass(21));
        Check.same("no cue has followed", x.cueOf(0), 0);
        Check.same("no time has gone", x.time(), 4980);
        Check.same("the last step", x.pass(20), 5000);
        Check.same("a cue followed in it", x.cueOf(0), 1);
        Check.refuses("none behind it", IllegalStateException.class, () -> x.pass(1));
        Check.same("so this one stays", x.cueOf(0), 1);
        Check.same("a cue begins without time", x.go(0), 2);
        Check.same("time", x.time(), 5000);
    }

    // "the code, 0 to 999"
    private static void codesAtTheirEdges() {
        Lampboard x = withCues(0, 2);
        Check.same("no cue has a code", x.code(0) + x.code(999), 0);
        x.setCode(0, 0, 0);
        x.setCode(0, 1, 999);
        Check.same("just less than 999", x.code(998), 1);
        Check.same("the one with 0", x.cueOf(0), 0);
        Check.same("999", x.code(999), 1);
        Check.same("the one with 999", x.cueOf(0), 1);
        Check.same("0", x.code(0), 1);
        Check.same("the one with 0", x.cueOf(0), 0);
        Check.refuses("1000", IllegalArgumentException.class, () -> x.code(1000));
        Check.refuses("-1, which is no code", IllegalArgumentException.class, () -> x.code(-1));
        Check.same("nothing has begun", x.cueOf(0), 0);
    }

    // "of the cues with a code not greater than this one, the one with the greatest code"
    private static void codeNotGreater() {
        Lampboard x = withCues(1, 12);
        for (int cue = 0; cue < 12; cue++) {
            x.setCode(1, cue, 100 - 5 * cue);
        }
        x.setCode(1, 6, -1);
        for (int code = 44; code <= 101; code++) {
            int due = code < 45 ? -1 : Math.max(0, (100 - code + 4) / 5);
            due = due == 6 ? 7 : due;
            boolean begins = due >= 0 && (code == 45 || code % 5 == 0 && code != 70 && code <= 100);
            Check.same("code " + code, x.code(code), begins ? 1 : 0);
            if (due >= 0) {
                Check.same("begun by " + code, x.cueOf(1), due);
            }
        }
    }

    // "of several the one with the lowest number"
    private static void ofSeveralTheLowestNumber() {
        Lampboard x = withCues(0, 12);
        for (int cue = 3; cue < 12; cue++) {
            x.setCode(0, cue, cue % 2 == 0 ? 20 : 19);
        }
        Check.same("the even ones", x.code(20), 1);
        Check.same("the lowest of them", x.cueOf(0), 4);
        Check.same("the odd ones", x.code(19), 1);
        Check.same("the lowest of them", x.cueOf(0), 3);
        x.goTo(0, 11);
        Check.same("another one of them is present", x.code(19), 1);
        Check.same("the lowest of them", x.cueOf(0), 3);
    }

    // "begins, if it is not the present one"
    private static void notThePresentOne() {
        Lampboard x = withCues(0, 2);
        x.setCode(0, 0, 5);
        x.setCode(0, 1, 5);
        x.setAssert(0, 0, true);
        x.setTimes(0, 0, 0, 10);
        x.goTo(0, 0);
        x.pass(5);
        Check.same("it is the present one", x.code(5), 0);
        Check.same("no other one begins for it", x.cueOf(0), 0);
        Check.same("its fade goes on", x.output(0, 1), 5);
        x.pass(5);
        Check.same("to its end", x.output(0, 1), 10);
        x.release(0);
        Check.same("it is not the present one any more", x.code(5), 1);
        Check.same("begun", x.cueOf(0), 0);
    }

    // "When a code comes, the lists are gone through by rising numbers"
    private static void listsWithACode() {
        Lampboard x = Desks.withLamps(1);
        for (int list = 0; list < 3; list++) {
            Desks.cue(x, list, 0, 1, 60 + list);
            x.setCode(list, 0, 3 * list);
            x.setTimes(list, 0, list, 0);
        }
        Check.same("only list 0", x.code(2), 1);
        x.release(0);
        Check.same("list 0 and list 1", x.code(5), 2);
        Check.same("the second is the latest", x.decides(0, 1), 1);
        Check.same("it begins with what the first put out", x.valueIn(1, 0, 1), 60);
        x.release(0);
        x.release(1);
        Check.same("all", x.code(6), 3);
        Check.same("the third is the latest", x.decides(0, 1), 2);
        Check.same("all are present", x.code(999), 0);
        Check.same("time does not go on", x.time(), 0);
    }

    private static void codeInAListThatIsFull() {
        Lampboard x = withCues(2, 12);
        x.setCode(2, 11, 1);
        Check.same("the last of twelve", x.code(1), 1);
        Check.same("begun", x.cueOf(2), 11);
        x.setCode(2, 0, 1);
        Check.same("the first of twelve", x.code(1), 1);
        Check.same("begun", x.cueOf(2), 0);
    }
}
