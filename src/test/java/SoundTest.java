import java.lang.reflect.Field;

/** Promise 45: isSound. */
public final class SoundTest {
    public static void main(String[] args) throws ReflectiveOperationException {
        soundAfterEachAct();
        theSecondDeskDoesEachAct();
        soundAfterRefusals();
        notSoundWithAnotherSecondDesk();
        Check.end();
    }

    private static Lampboard busy() {
        Lampboard x = Desks.withGroup(3);
        x.patch(0, 0);
        x.patch(1, 30);
        x.patch(2, 60);
        x.addPalette(1, 9);
        x.fan(0, 0, 50, 200);
        x.point(1, 0);
        x.record(0);
        x.fan(0, 1, 200, 100);
        x.record(1);
        Desks.cue(x, 0, 2, 3, 40);
        x.setTimes(0, 0, 1, 7);
        x.setTimes(1, 0, 2, 5);
        x.setFollow(0, 0, 3);
        x.addEffect(0, 0, 't', 60, 5, 2);
        return x;
    }

    private static void soundAfterEachAct() {
        Lampboard x = busy();
        Check.is("recorded", x.isSound());
        x.start(0);
        x.go(0);
        Check.is("go", x.isSound());
        x.pass(2);
        x.setMaster(0, 70);
        x.goTo(1, 0);
        Check.is("goTo", x.isSound());
        x.pass(5);
        Check.is("followed", x.isSound());
        x.set(1, 1, 77);
        Check.is("set", x.isSound());
        x.update(0);
        Check.is("update", x.isSound());
        x.setCode(1, 0, 4);
        x.setPriority(1, 8);
        x.release(1);
        x.code(4);
        Check.is("code", x.isSound());
        x.setAssert(0, 1, true);
        x.setLink(0, 1, 0);
        x.go(0);
        x.stop(0);
        x.patch(1, 4);
        Check.is("go by a link, stop, patch", x.isSound());
        x.set(2, 0, 1);
        x.knockOut(2, 0);
        x.set(0, 0, 2);
        x.clear();
        Check.is("an empty programmer", x.isSound());
    }

    /** Each act is followed by others that show on the lines whether the second desk did it, too. */
    private static void theSecondDeskDoesEachAct() {
        Lampboard x = Desks.withLamps(3);
        sound("patch", x, () -> x.patch(0, 0), () -> x.set(0, 0, 9));
        x.patch(1, 4);
        x.patch(2, 8);
        sound("addGroup", x, x::addGroup, x::addGroup);
        sound("addToGroup", x, () -> x.addToGroup(1, 0), () -> x.addToGroup(1, 2), () -> x.fan(1, 2, 9, 200));
        sound("addPalette", x, () -> x.addPalette(1, 50), () -> x.addPalette(2, 60), () -> x.point(1, 1), () -> x.point(1, 0));
        sound("setPalette", x, () -> x.setPalette(1, 61));
        sound("knockOut", x, () -> x.knockOut(1, 2));
        sound("record", x, () -> x.record(0), () -> x.go(0));
        sound("clear", x, () -> x.set(0, 0, 5), x::clear);
        x.set(0, 1, 90);
        sound("setTimes", x, () -> x.record(0), () -> x.setTimes(0, 1, 1, 8), () -> x.go(0), () -> x.pass(3));
        sound("setFollow", x, () -> x.setFollow(0, 0, 2), () -> x.goTo(0, 0), () -> x.pass(2), () -> x.pass(5));
        sound("setLink", x, () -> x.setLink(0, 1, 0), () -> x.go(0));
        x.setTimes(0, 0, 0, 20);
        x.goTo(0, 0);
        x.setTimes(0, 1, 0, 0);
        x.setPalette(1, 255);
        x.setPalette(0, 255);
        sound("setAssert", x, () -> x.pass(1), () -> x.setAssert(0, 1, true), () -> x.goTo(0, 1), () -> x.pass(4));
        sound("setCode", x, () -> x.setCode(0, 0, 3), () -> x.code(2));
        sound("code", x, () -> x.code(3));
        x.fan(1, 2, 30, 40);
        sound("setPriority", x, () -> x.record(2), () -> x.goTo(2, 0), () -> x.setPriority(2, 1));
        sound("setMaster", x, () -> x.setMaster(0, 20));
        sound("update", x, () -> x.set(0, 0, 77), () -> x.update(0));
        sound("release", x, () -> x.release(0));
        sound("addEffect", x, () -> x.addEffect(1, 2, 't', 90, 7, 2), () -> x.start(0), () -> x.pass(1));
        sound("stop", x, () -> x.stop(0));
        sound("start again", x, () -> x.pass(2), () -> x.start(0), () -> x.pass(1));
    }

    private static void sound(String what, Lampboard x, Runnable... acts) {
        for (Runnable act : acts) {
            act.run();
            Check.is("sound after " + what, x.isSound());
        }
    }

    private static void soundAfterRefusals() {
        Lampboard x = busy();
        Check.refuses("patch", IllegalStateException.class, () -> x.patch(0, 31));
        Check.refuses("set", IllegalArgumentException.class, () -> x.set(0, 0, 256));
        Check.refuses("release", IllegalStateException.class, () -> x.release(2));
        Check.refuses("pass", IllegalArgumentException.class, () -> x.pass(31));
        Check.is("refused acts are not done", x.isSound());
        Check.is("asked twice", x.isSound());
    }

    /** No calls make an unsound desk, so this one reaches behind the face: change it when the class holds its state otherwise. */
    private static void notSoundWithAnotherSecondDesk() throws ReflectiveOperationException {
        Lampboard x = busy();
        x.go(0);
        Check.is("sound", x.isSound());
        int[] lines = (int[]) inside(inside(x, "twin"), "lines");
        lines[0] = 20;
        x.set(0, 2, 5);
        Check.is("another lamp's place on the second desk", !x.isSound());
        lines[0] = 0;
        Check.is("sound again", x.isSound());
        int[] rows = (int[]) inside(inside(inside(x, "twin"), "programmer"), "rows");
        rows[0] = 201;
        Check.is("another light on line 0", !x.isSound());
        rows[0] = -1;
        rows[11] = 1;
        Check.is("another shape on line 63", !x.isSound());
        rows[11] = -1;
        Check.is("sound again", x.isSound());
    }

    private static Object inside(Object owner, String name) throws ReflectiveOperationException {
        Field field = owner.getClass().getDeclaredField(name);
        field.setAccessible(true);
        return field.get(owner);
    }
}
