/** Promises 25, 26 and 41: time goes on, and codes come. */
public final class TimeTest {
    public static void main(String[] args) {
        promise25Pass();
        promise25Refuses();
        promise25Follows();
        promise25FollowsOnlyThen();
        promise25FollowsByLinks();
        promise25ListsByRisingNumbers();
        promise26Code();
        promise26CodeOfSeveral();
        promise26Refuses();
        promise41Time();
        Check.end();
    }

    private static Lampboard withCues(int cues) {
        Lampboard x = Desks.withLamps(1);
        for (int cue = 0; cue < cues; cue++) {
            Desks.cue(x, 0, 0, 0, cue);
        }
        return x;
    }

    private static void promise25Pass() {
        Lampboard x = new Lampboard();
        Check.same("pass", x.pass(1), 1);
        Check.same("pass", x.pass(30), 31);
        Check.same("time", x.time(), 31);
    }

    private static void promise25Refuses() {
        Lampboard x = new Lampboard();
        Check.refuses("steps 0", IllegalArgumentException.class, () -> x.pass(0));
        Check.refuses("steps -1", IllegalArgumentException.class, () -> x.pass(-1));
        Check.refuses("steps 31", IllegalArgumentException.class, () -> x.pass(31));
        Check.refuses("the greatest", IllegalArgumentException.class, () -> x.pass(Integer.MAX_VALUE));
        for (int turn = 0; turn < 166; turn++) {
            x.pass(30);
        }
        Check.refuses("5001", IllegalStateException.class, () -> x.pass(21));
        Check.same("nothing has changed", x.time(), 4980);
        Check.same("5000", x.pass(20), 5000);
        Check.refuses("5001", IllegalStateException.class, () -> x.pass(1));
        Check.refuses("number ahead of time", IllegalArgumentException.class, () -> x.pass(31));
        Check.same("nothing has changed", x.time(), 5000);
    }

    private static void promise25Follows() {
        Lampboard x = withCues(3);
        x.setFollow(0, 0, 3);
        x.setFollow(0, 1, 1);
        x.setFollow(0, 2, 1);
        x.pass(5);
        x.go(0);
        x.pass(2);
        Check.same("not yet", x.cueOf(0), 0);
        x.pass(1);
        Check.same("now", x.cueOf(0), 1);
        x.pass(1);
        Check.same("and the next", x.cueOf(0), 2);
        x.pass(1);
        Check.same("none behind it", x.cueOf(0), 2);
        x.goTo(0, 0);
        x.pass(30);
        Check.same("in one call", x.cueOf(0), 2);
    }

    private static void promise25FollowsOnlyThen() {
        Lampboard x = withCues(2);
        x.go(0);
        x.pass(5);
        x.setFollow(0, 0, 5);
        x.pass(10);
        Check.same("too late", x.cueOf(0), 0);
        x.goTo(0, 0);
        x.pass(4);
        x.goTo(0, 0);
        x.pass(4);
        Check.same("counted from its last beginning", x.cueOf(0), 0);
        x.pass(1);
        Check.same("now", x.cueOf(0), 1);
        x.setFollow(0, 1, 2);
        x.pass(2);
        Desks.cue(x, 0, 0, 0, 9);
        x.pass(5);
        Check.same("the next one came too late", x.cueOf(0), 1);
        x.goTo(0, 1);
        x.setFollow(0, 1, -1);
        x.pass(5);
        Check.same("no follow any more", x.cueOf(0), 1);
        x.goTo(0, 0);
        x.release(0);
        x.pass(30);
        Check.same("released", x.go(0), 0);
    }

    private static void promise25FollowsByLinks() {
        Lampboard x = withCues(3);
        x.setFollow(0, 0, 2);
        x.setFollow(0, 2, 3);
        x.setLink(0, 0, 2);
        x.setLink(0, 2, 0);
        x.go(0);
        int[] due = {0, 2, 2, 2, 0, 0, 2, 2, 2, 0};
        for (int time = 1; time <= 10; time++) {
            x.pass(1);
            Check.same("at " + time, x.cueOf(0), due[time - 1]);
        }
        x.setLink(0, 0, 11);
        x.pass(30);
        Check.same("linked to none", x.cueOf(0), 0);
    }

    private static void promise25ListsByRisingNumbers() {
        Lampboard x = Desks.withLamps(1);
        for (int list = 2; list >= 0; list--) {
            Desks.cue(x, list, 0, 0, 1);
            Desks.cue(x, list, 0, 1, 50 + list);
            x.setFollow(list, 0, 4);
            x.goTo(list, 0);
        }
        x.setTimes(1, 1, 1, 0);
        x.pass(4);
        Check.same("the last list's fade is the latest", x.decides(0, 1), 2);
        Check.same("list 1 began with what list 0 put out", x.valueIn(1, 0, 1), 50);
    }

    private static void promise26Code() {
        Lampboard x = withCues(3);
        Check.same("no codes", x.code(999), 0);
        x.setCode(0, 0, 10);
        x.setCode(0, 2, 20);
        Check.same("none so low", x.code(9), 0);
        Check.same("its code", x.code(10), 1);
        Check.same("began", x.cueOf(0), 0);
        Check.same("the present one", x.code(19), 0);
        Check.same("the greatest", x.code(20), 1);
        Check.same("began", x.cueOf(0), 2);
        Check.same("back again", x.code(11), 1);
        Check.same("began", x.cueOf(0), 0);
        x.setCode(0, 1, 0);
        Check.same("code 0", x.code(0), 1);
        Check.same("began", x.cueOf(0), 1);
        x.setCode(0, 2, -1);
        Check.same("no code any more", x.code(999), 1);
        Check.same("began", x.cueOf(0), 0);
    }

    private static void promise26CodeOfSeveral() {
        Lampboard x = withCues(4);
        x.setCode(0, 1, 7);
        x.setCode(0, 2, 7);
        x.setCode(0, 3, 6);
        Check.same("several", x.code(8), 1);
        Check.same("the lowest number", x.cueOf(0), 1);
        x.goTo(0, 2);
        Check.same("of several, the lowest, though the other one is present", x.code(8), 1);
        Check.same("the lowest number", x.cueOf(0), 1);
        Desks.cue(x, 1, 0, 1, 5);
        Desks.cue(x, 2, 0, 1, 6);
        x.setCode(1, 0, 3);
        x.setCode(2, 0, 8);
        Check.same("each list", x.code(8), 2);
        Check.same("by rising numbers", x.decides(0, 1), 2);
        x.release(1);
        Check.same("a released list", x.code(8), 1);
        Check.same("it is the latest now", x.decides(0, 1), 1);
    }

    private static void promise26Refuses() {
        Lampboard x = withCues(1);
        x.setCode(0, 0, 0);
        Check.refuses("code -1", IllegalArgumentException.class, () -> x.code(-1));
        Check.refuses("code 1000", IllegalArgumentException.class, () -> x.code(1000));
        Check.same("nothing has changed", x.code(999), 1);
    }

    private static void promise41Time() {
        Lampboard x = withCues(1);
        Check.same("time", x.time(), 0);
        x.go(0);
        x.code(5);
        Check.same("only steps count", x.time(), 0);
        x.pass(7);
        Check.same("time", x.time(), 7);
    }
}
