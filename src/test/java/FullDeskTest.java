/** A desk with all that it can have: the last lamp, group, palette, cue and effect, in each question that goes through them. */
public final class FullDeskTest {
    private static final Lampboard X = new Lampboard();

    public static void main(String[] args) {
        fill();
        refusesMore();
        goesThroughAll();
        stepsAndCodes();
        Check.end();
    }

    private static void fill() {
        for (int lamp = 0; lamp < 12; lamp++) {
            X.addLamp();
            X.patch(lamp, 60 - 5 * lamp);
        }
        for (int group = 0; group < 6; group++) {
            X.addGroup();
            for (int lamp = 0; lamp < 12; lamp++) {
                X.addToGroup(group, (lamp + group) % 12);
            }
        }
        for (int palette = 0; palette < 8; palette++) {
            X.addPalette(palette % 4, 20 + palette);
        }
        for (int effect = 0; effect < 4; effect++) {
            X.addEffect(5, effect, 'w', 255, 20, 19);
        }
        for (int cue = 0; cue < 36; cue++) {
            for (int attribute = 0; attribute < 4; attribute++) {
                X.fan(5, attribute, 7 * cue, 255);
            }
            X.record(cue % 3);
        }
    }

    private static void refusesMore() {
        Check.refuses("lamp", IllegalStateException.class, X::addLamp);
        Check.refuses("group", IllegalStateException.class, X::addGroup);
        Check.refuses("palette", IllegalStateException.class, () -> X.addPalette(0, 0));
        Check.refuses("effect", IllegalStateException.class, () -> X.addEffect(0, 0, 'w', 0, 2, 0));
        for (int group = 0; group < 6; group++) {
            int its = group;
            Check.refuses("member", IllegalStateException.class, () -> X.addToGroup(its, 11));
        }
        X.point(11, 7);
        for (int list = 0; list < 3; list++) {
            int its = list;
            Check.refuses("cue", IllegalStateException.class, () -> X.record(its));
        }
        Check.same("knockOut of the last", X.knockOut(11, 3), 0);
    }

    private static void goesThroughAll() {
        Check.same("meanStored", X.meanStored(), 48.0);
        Check.same("litShare of none", X.litShare(), 0.0);
        Check.same("goTo the last cue", X.goTo(2, 11), 48);
        Check.same("litShare of all", X.litShare(), 1.0);
        Check.same("the last line is the first lamp's", X.line(63), X.output(0, 3));
        Check.same("lines between lamps", X.line(4), 0);
        Check.same("last source", X.source(2, 11, 11, 3), 11);
        Check.same("last in the group", X.output(4, 3), 255);
        Check.same("first in the group", X.output(5, 3), 245);
        for (int effect = 0; effect < 4; effect++) {
            Check.same("start", X.start(effect), effect + 1);
        }
        Check.same("with the wave of place 1", X.output(6, 3), 255);
        Check.is("sound", X.isSound());
    }

    private static void stepsAndCodes() {
        for (int list = 0; list < 3; list++) {
            X.setCode(list, 11, 999);
            X.setFollow(list, 11, 1);
        }
        Check.same("the last cue by its code", X.code(999), 2);
        Check.same("it has no next", X.pass(30), 30);
        Check.same("so it stays", X.cueOf(0), 11);
        Check.refuses("no next cue", IllegalStateException.class, () -> X.go(1));
        Check.same("release of all", X.release(1), 48);
        X.setLink(2, 11, 11);
        X.goTo(2, 11);
        Check.same("linked to itself", X.pass(30), 60);
        Check.is("sound", X.isSound());
    }
}
