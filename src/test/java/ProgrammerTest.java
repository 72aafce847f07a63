import java.util.NoSuchElementException;

/** Promises 8 to 12: the programmer. */
public final class ProgrammerTest {
    public static void main(String[] args) {
        promise8Set();
        promise8Refuses();
        promise9Point();
        promise10Fan();
        promise10FanLeavesOut();
        promise10FanOfTwo();
        promise10Refuses();
        promise11KnockOut();
        promise12Clear();
        Check.end();
    }

    private static void promise8Set() {
        Lampboard x = Desks.withLamps(2);
        Check.same("set", x.set(0, 0, 0), 1);
        Check.same("set again", x.set(0, 0, 255), 1);
        Check.same("set another attribute", x.set(0, 3, 7), 2);
        Check.same("set another lamp", x.set(1, 0, 8), 3);
        Check.same("value", x.output(0, 0), 255);
        Check.same("value", x.output(0, 3), 7);
        Check.same("value", x.output(1, 0), 8);
        x.addPalette(1, 50);
        x.point(0, 0);
        Check.same("a number in place of a palette", x.set(0, 1, 51), 4);
        x.setPalette(0, 60);
        Check.same("it is a number", x.output(0, 1), 51);
    }

    private static void promise8Refuses() {
        Lampboard x = Desks.withLamps(1);
        Check.refuses("lamp -1", IndexOutOfBoundsException.class, () -> x.set(-1, 0, 0));
        Check.refuses("lamp ahead of attribute", IndexOutOfBoundsException.class, () -> x.set(1, 4, 256));
        Check.refuses("attribute -1", IllegalArgumentException.class, () -> x.set(0, -1, 0));
        Check.refuses("attribute 4", IllegalArgumentException.class, () -> x.set(0, 4, 0));
        Check.refuses("value -1", IllegalArgumentException.class, () -> x.set(0, 0, -1));
        Check.refuses("value 256", IllegalArgumentException.class, () -> x.set(0, 0, 256));
        Check.same("nothing has changed", x.clear(), 0);
    }

    private static void promise9Point() {
        Lampboard x = Desks.withLamps(2);
        Check.refuses("lamp ahead of palette", IndexOutOfBoundsException.class, () -> x.point(2, 0));
        Check.refuses("palette 0", NoSuchElementException.class, () -> x.point(0, 0));
        x.addPalette(2, 30);
        x.addPalette(2, 40);
        Check.refuses("palette -1", NoSuchElementException.class, () -> x.point(0, -1));
        Check.refuses("palette 2", NoSuchElementException.class, () -> x.point(0, 2));
        Check.refuses("lamp -1", IndexOutOfBoundsException.class, () -> x.point(-1, 0));
        Check.same("nothing has changed", x.clear(), 0);
        x.set(0, 2, 5);
        Check.same("in place of a number", x.point(0, 0), 1);
        Check.same("in place of a palette", x.point(0, 1), 1);
        Check.same("another lamp", x.point(1, 0), 2);
        Check.same("value", x.output(0, 2), 40);
        Check.same("value", x.output(1, 2), 30);
        Check.same("no other attribute", x.output(0, 0), 0);
    }

    private static void promise10Fan() {
        Lampboard x = Desks.withGroup(3);
        x.addGroup();
        x.addToGroup(1, 2);
        x.addGroup();
        Check.same("a group without lamps", x.fan(2, 0, 1, 2), 0);
        Check.same("a lone lamp", x.fan(1, 3, 9, 200), 1);
        Check.same("it gets the first number", x.output(2, 3), 9);
        x.set(0, 3, 1);
        Check.same("entries are counted once", x.fan(0, 3, 0, 255), 3);
        Check.same("first", x.output(0, 3), 0);
        Check.same("middle", x.output(1, 3), 127);
        Check.same("last", x.output(2, 3), 255);
        Check.same("its own attribute", x.fan(0, 0, 7, 7), 6);
        Check.same("the same number", x.output(1, 0), 7);
    }

    private static void promise10FanLeavesOut() {
        Lampboard x = Desks.withGroup(4);
        x.fan(0, 1, 10, 0);
        int[] falling = {10, 7, 4, 0};
        x.fan(0, 2, 0, 10);
        int[] rising = {0, 3, 6, 10};
        for (int lamp = 0; lamp < 4; lamp++) {
            Check.same("falling fan of lamp " + lamp, x.output(lamp, 1), falling[lamp]);
            Check.same("rising fan of lamp " + lamp, x.output(lamp, 2), rising[lamp]);
        }
    }

    private static void promise10FanOfTwo() {
        Lampboard x = Desks.withGroup(2);
        Check.same("a group of two", x.fan(0, 0, 255, 1), 2);
        Check.same("first", x.output(0, 0), 255);
        Check.same("last", x.output(1, 0), 1);
    }

    private static void promise10Refuses() {
        Lampboard x = Desks.withGroup(1);
        Check.refuses("group -1", NoSuchElementException.class, () -> x.fan(-1, 0, 0, 0));
        Check.refuses("group ahead of numbers", NoSuchElementException.class, () -> x.fan(1, 4, 256, -1));
        Check.refuses("attribute -1", IllegalArgumentException.class, () -> x.fan(0, -1, 0, 0));
        Check.refuses("attribute 4", IllegalArgumentException.class, () -> x.fan(0, 4, 0, 0));
        Check.refuses("first -1", IllegalArgumentException.class, () -> x.fan(0, 0, -1, 0));
        Check.refuses("first 256", IllegalArgumentException.class, () -> x.fan(0, 0, 256, 0));
        Check.refuses("last -1", IllegalArgumentException.class, () -> x.fan(0, 0, 0, -1));
        Check.refuses("last 256", IllegalArgumentException.class, () -> x.fan(0, 0, 0, 256));
        Check.same("nothing has changed", x.clear(), 0);
    }

    private static void promise11KnockOut() {
        Lampboard x = Desks.withLamps(2);
        x.set(0, 0, 1);
        x.set(0, 1, 2);
        x.set(1, 0, 3);
        Check.same("knockOut", x.knockOut(0, 1), 2);
        Check.same("it is gone", x.output(0, 1), 0);
        Check.same("another stays", x.output(0, 0), 1);
        Check.refuses("gone twice", NoSuchElementException.class, () -> x.knockOut(0, 1));
        Check.refuses("lamp -1", IndexOutOfBoundsException.class, () -> x.knockOut(-1, 0));
        Check.refuses("lamp ahead of attribute", IndexOutOfBoundsException.class, () -> x.knockOut(2, 4));
        Check.refuses("attribute 4", IllegalArgumentException.class, () -> x.knockOut(0, 4));
        Check.refuses("attribute -1", IllegalArgumentException.class, () -> x.knockOut(0, -1));
        Check.same("knockOut", x.knockOut(1, 0), 1);
        Check.same("knockOut of the last", x.knockOut(0, 0), 0);
    }

    private static void promise12Clear() {
        Lampboard x = Desks.withGroup(12);
        Check.same("clear of none", x.clear(), 0);
        for (int attribute = 0; attribute < 4; attribute++) {
            x.fan(0, attribute, 100, 200);
        }
        Check.same("clear of all", x.clear(), 48);
        Check.same("none is left", x.output(11, 3), 0);
        Check.refuses("none is left", NoSuchElementException.class, () -> x.decides(0, 0));
        Check.same("clear again", x.clear(), 0);
        Check.same("counted from 0 again", x.set(4, 1, 3), 1);
    }
}
