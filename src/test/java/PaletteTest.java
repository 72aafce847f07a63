import java.util.NoSuchElementException;

/** Promises 4 to 7: groups and palettes. */
public final class PaletteTest {
    public static void main(String[] args) {
        promise4AddGroup();
        promise5AddToGroup();
        promise5Refuses();
        promise6AddPalette();
        promise6Refuses();
        promise7SetPalette();
        Check.end();
    }

    private static void promise4AddGroup() {
        Lampboard x = Desks.withLamps(1);
        for (int group = 0; group < 6; group++) {
            Check.same("addGroup", x.addGroup(), group);
        }
        Check.refuses("group 7", IllegalStateException.class, x::addGroup);
        Check.same("a new group has no lamps", x.fan(5, 0, 1, 2), 0);
        Check.refuses("group 6", NoSuchElementException.class, () -> x.addToGroup(6, 0));
    }

    private static void promise5AddToGroup() {
        Lampboard x = Desks.withLamps(12);
        x.addGroup();
        x.addGroup();
        for (int place = 0; place < 12; place++) {
            Check.same("addToGroup", x.addToGroup(1, 11 - place), place + 1);
        }
        Check.same("a lamp is in a second group", x.addToGroup(0, 5), 1);
        x.fan(1, 1, 0, 110);
        Check.same("first of the order", x.output(11, 1), 0);
        Check.same("second of the order", x.output(10, 1), 10);
        Check.same("last of the order", x.output(0, 1), 110);
    }

    private static void promise5Refuses() {
        Lampboard x = Desks.withLamps(2);
        Check.refuses("no group, no lamp", NoSuchElementException.class, () -> x.addToGroup(0, 2));
        x.addGroup();
        Check.refuses("group -1", NoSuchElementException.class, () -> x.addToGroup(-1, 0));
        Check.refuses("group 1", NoSuchElementException.class, () -> x.addToGroup(1, 0));
        Check.refuses("lamp -1", IndexOutOfBoundsException.class, () -> x.addToGroup(0, -1));
        Check.refuses("lamp 2", IndexOutOfBoundsException.class, () -> x.addToGroup(0, 2));
        x.addToGroup(0, 1);
        Check.refuses("in the group", IllegalStateException.class, () -> x.addToGroup(0, 1));
        Check.same("nothing has changed", x.addToGroup(0, 0), 2);
    }

    private static void promise6AddPalette() {
        Lampboard x = Desks.withLamps(1);
        for (int palette = 0; palette < 8; palette++) {
            Check.same("addPalette", x.addPalette(palette % 4, palette == 7 ? 255 : palette), palette);
        }
        x.point(0, 3);
        x.point(0, 6);
        Check.same("its attribute and value", x.output(0, 3), 3);
        Check.same("its attribute and value", x.output(0, 2), 6);
        x.point(0, 7);
        Check.same("the greatest value", x.output(0, 3), 255);
    }

    private static void promise6Refuses() {
        Lampboard x = new Lampboard();
        Check.refuses("attribute -1", IllegalArgumentException.class, () -> x.addPalette(-1, 0));
        Check.refuses("attribute 4", IllegalArgumentException.class, () -> x.addPalette(4, 0));
        Check.refuses("value -1", IllegalArgumentException.class, () -> x.addPalette(0, -1));
        Check.refuses("value 256", IllegalArgumentException.class, () -> x.addPalette(0, 256));
        for (int palette = 0; palette < 8; palette++) {
            Check.same("none was added", x.addPalette(0, 0), palette);
        }
        Check.refuses("palette 9", IllegalStateException.class, () -> x.addPalette(0, 0));
        Check.refuses("argument ahead of state", IllegalArgumentException.class, () -> x.addPalette(0, 256));
        Check.refuses("argument ahead of state", IllegalArgumentException.class, () -> x.addPalette(4, 0));
    }

    private static void promise7SetPalette() {
        Lampboard x = Desks.withLamps(2);
        x.addPalette(1, 10);
        x.addPalette(1, 20);
        x.point(0, 0);
        x.record(0);
        x.go(0);
        x.point(1, 0);
        Check.same("setPalette", x.setPalette(0, 255), 10);
        Check.same("a cue follows it", x.output(0, 1), 255);
        Check.same("the programmer follows it", x.output(1, 1), 255);
        Check.same("setPalette", x.setPalette(0, 0), 255);
        Check.same("the other palette stays", x.setPalette(1, 21), 20);
        Check.refuses("palette -1", NoSuchElementException.class, () -> x.setPalette(-1, 0));
        Check.refuses("palette ahead of value", NoSuchElementException.class, () -> x.setPalette(2, 256));
        Check.refuses("value 256", IllegalArgumentException.class, () -> x.setPalette(0, 256));
        Check.refuses("value -1", IllegalArgumentException.class, () -> x.setPalette(0, -1));
        Check.same("nothing has changed", x.setPalette(0, 5), 0);
    }
}
