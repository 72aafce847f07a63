/** The edges of what the terms say of lamps, groups, palettes, entries and the programmer; above each test stands its sentence. */
public final class EdgesOfLampsTest {
    public static void main(String[] args) {
        atMostTwelveLamps();
        theLineAndTheThreeNextOnes();
        noLineIsOfTwoLamps();
        aLampWithoutALineIsInNobodysWay();
        inPlaceOfAnotherLine();
        sumOfAllLines();
        eachLampOnceInAGroup();
        anOrder();
        paletteFollowedAtAllTimes();
        atMostOneEntryForEachAttribute();
        fanOfAllSizes();
        fanWhereTheQuotientIsLessThanOne();
        fanInPlaceOfOtherEntries();
        fanOfAGroupAsItIsThen();
        litLight();
        Check.end();
    }

    // "At most 12 lamps are numbered from 0."
    private static void atMostTwelveLamps() {
        Lampboard x = new Lampboard();
        for (int lamp = 0; lamp < 12; lamp++) {
            int next = lamp;
            Check.refuses("set of a lamp to come", IndexOutOfBoundsException.class, () -> x.set(next, 0, 1));
            Check.same("addLamp", x.addLamp(), lamp);
            Check.same("set of the newest", x.set(lamp, 0, lamp + 1), lamp + 1);
        }
        for (int turn = 0; turn < 3; turn++) {
            Check.refuses("a lamp too many", IllegalStateException.class, x::addLamp);
        }
        Check.refuses("none came of it", IndexOutOfBoundsException.class, () -> x.set(12, 0, 1));
        Check.same("the last one stays", x.output(11, 0), 12);
        Check.same("all are lit", x.litShare(), 1.0);
    }

    // "It can be patched to a line from 0 to 60: then its attributes are on this line and the three next ones"
    private static void theLineAndTheThreeNextOnes() {
        Lampboard x = Desks.withLamps(1);
        for (int attribute = 0; attribute < 4; attribute++) {
            x.set(0, attribute, 10 + attribute);
        }
        for (int place : new int[] {0, 1, 31, 59, 60}) {
            x.patch(0, place);
            for (int line = place - 2; line < place + 6; line++) {
                if (line >= 0 && line < 64) {
                    boolean on = line >= place && line < place + 4;
                    Check.same("line " + line + " with a lamp at " + place, x.line(line), on ? 10 + line - place : 0);
                }
            }
        }
        Check.refuses("a line for three attributes", IllegalArgumentException.class, () -> x.patch(0, 61));
        Check.same("it stays on the last lines", x.line(63), 13);
        Check.same("patch to none", x.patch(0, -1), 60);
        Check.same("the last line is of no lamp then", x.line(63), 0);
        Check.same("sum", x.sum(), 0);
    }

    // "no line is of two lamps"
    private static void noLineIsOfTwoLamps() {
        Lampboard x = Desks.withLamps(12);
        for (int lamp = 0; lamp < 11; lamp++) {
            Check.same("side by side", x.patch(lamp, 4 * lamp), -1);
        }
        for (int line = 0; line <= 43; line++) {
            int its = line;
            Check.refuses("line " + line, IllegalStateException.class, () -> x.patch(11, its));
        }
        Check.same("it stays without one", x.patch(11, 44), -1);
        Check.same("the first free one", x.patch(11, 60), 44);
        Check.refuses("its own and another's", IllegalStateException.class, () -> x.patch(10, 57));
        Check.refuses("its own and another's", IllegalStateException.class, () -> x.patch(0, 1));
        Check.same("between both", x.patch(10, 56), 40);
        Check.same("where it was is free", x.patch(0, 40), 0);
        Check.same("and so is where this one was", x.patch(9, 0), 36);
    }

    // "Adds a lamp that is not patched." and "-1 for none"
    private static void aLampWithoutALineIsInNobodysWay() {
        Lampboard x = Desks.withLamps(12);
        for (int line = 0; line <= 4; line++) {
            Check.same("line " + line, x.patch(11, line), line - 1);
        }
        Check.same("none", x.patch(11, -1), 4);
        Check.same("none beside others with none", x.patch(10, -1), -1);
        Check.same("line 0 again", x.patch(10, 0), -1);
        x.set(11, 0, 9);
        x.set(11, 1, 9);
        Check.same("no line of a lamp without one", x.line(0) + x.line(1) + x.line(2) + x.line(3), 0);
    }

    // "Patches a lamp to a line, in place of another one."
    private static void inPlaceOfAnotherLine() {
        Lampboard x = Desks.withLamps(1);
        x.set(0, 0, 50);
        for (int line = 0; line <= 60; line++) {
            Check.same("patch over its own lines", x.patch(0, line), line - 1);
            Check.same("its light", x.line(line), 50);
            Check.same("and only this", x.sum(), 50);
        }
    }

    // "Returns the sum of all lines."
    private static void sumOfAllLines() {
        Lampboard x = Desks.withLamps(2);
        x.set(0, 0, 255);
        x.set(0, 3, 255);
        x.set(1, 0, 1);
        Check.same("nothing is patched", x.sum(), 0);
        x.patch(0, 0);
        Check.same("the first line is in it", x.sum(), 510);
        x.patch(0, 60);
        Check.same("the last line is in it", x.sum(), 510);
        x.patch(1, 56);
        Check.same("of both", x.sum(), 511);
        x.knockOut(0, 3);
        Check.same("without the last line", x.sum(), 256);
    }

    // "a group has lamps in an order, each once"
    private static void eachLampOnceInAGroup() {
        Lampboard x = Desks.withLamps(12);
        for (int group = 0; group < 6; group++) {
            x.addGroup();
        }
        for (int lamp = 0; lamp < 12; lamp++) {
            int its = lamp;
            Check.same("a lamp in the last group", x.addToGroup(5, lamp), lamp + 1);
            Check.refuses("twice", IllegalStateException.class, () -> x.addToGroup(5, its));
        }
        Check.refuses("the first one twice, in a full group", IllegalStateException.class, () -> x.addToGroup(5, 0));
        Check.refuses("a lamp that is not there, in a full group", IndexOutOfBoundsException.class, () -> x.addToGroup(5, 12));
        Check.same("it has twelve", x.fan(5, 0, 1, 1), 12);
        Check.same("the others have none", x.fan(0, 1, 1, 1) + x.fan(4, 1, 1, 1), 24);
        Check.same("the same lamp in the first group", x.addToGroup(0, 11), 1);
    }

    // "Adds a lamp to a group, as the last one."
    private static void anOrder() {
        Lampboard x = Desks.withLamps(4);
        x.addGroup();
        int[] order = {2, 0, 3, 1};
        for (int place = 0; place < 4; place++) {
            x.addToGroup(0, order[place]);
            x.fan(0, 0, 0, 60);
            for (int j = 0; j <= place; j++) {
                Check.same("place " + j + " of " + (place + 1), x.output(order[j], 0), place == 0 ? 0 : j * 60 / place);
            }
        }
    }

    // "whose value it follows at all times"
    private static void paletteFollowedAtAllTimes() {
        Lampboard x = Desks.withLamps(2);
        x.addPalette(1, 100);
        x.point(0, 0);
        x.record(0);
        x.setPalette(0, 255);
        Check.same("in a cue that is not present", x.tracked(0, 0, 0, 1), 255);
        x.setTimes(0, 0, 2, 4);
        x.go(0);
        x.setPalette(0, 0);
        x.pass(2);
        x.setPalette(0, 40);
        Check.same("at the start it has begun at 0", x.output(0, 1), 0);
        x.pass(1);
        Check.same("a quarter", x.output(0, 1), 10);
        x.setPalette(0, 80);
        Check.same("a quarter of the new value", x.output(0, 1), 20);
        x.pass(3);
        Check.same("the whole", x.output(0, 1), 80);
        x.setPalette(0, 0);
        Check.same("behind the end", x.output(0, 1), 0);
        x.point(1, 0);
        x.setPalette(0, 255);
        Check.same("in the programmer", x.output(1, 1), 255);
        Check.same("in the list", x.valueIn(0, 0, 1), 255);
    }

    // "The programmer has at most one entry for each attribute of each lamp."
    private static void atMostOneEntryForEachAttribute() {
        Lampboard x = Desks.withLamps(12);
        x.addPalette(3, 7);
        for (int slot = 0; slot < 48; slot++) {
            Check.same("set", x.set(slot / 4, slot % 4, slot), slot + 1);
        }
        Check.same("set in place of the first", x.set(0, 0, 255), 48);
        Check.same("set in place of the last", x.set(11, 3, 0), 48);
        Check.same("point in place of the last", x.point(11, 0), 48);
        Check.same("one less", x.knockOut(11, 3), 47);
        Check.same("and again", x.point(11, 0), 48);
        x.record(0);
        Check.same("all are in the cue", x.meanStored(), 48.0);
        Check.same("the first of it", x.tracked(0, 0, 0, 0), 255);
        Check.same("the last of it", x.paletteOf(0, 0, 11, 3), 0);
        Check.same("none is left", x.clear(), 0);
    }

    // "the lamp with the place j of n lamps, from 0, gets the first number plus j times the last one less the first one, divided by
    // n - 1, where what is behind the point of this quotient is left out; a lone lamp gets the first one"
    private static void fanOfAllSizes() {
        int[][] ends = {{0, 255}, {255, 0}, {0, 0}, {255, 255}, {100, 7}, {7, 100}, {254, 255}, {1, 0}};
        for (int size = 1; size <= 12; size++) {
            Lampboard x = Desks.withGroup(size);
            for (int[] its : ends) {
                Check.same("fan", x.fan(0, 1, its[0], its[1]), size);
                for (int j = 0; j < size; j++) {
                    long due = its[0];
                    if (size > 1) {
                        // What is behind the point is left out of a falling fan, too, so the way is divided without its sign.
                        long whole = (long) j * Math.abs(its[1] - its[0]) / (size - 1);
                        due = its[1] < its[0] ? its[0] - whole : its[0] + whole;
                    }
                    Check.same("place " + j + " of " + size + " from " + its[0] + " to " + its[1], x.output(j, 1), due);
                }
            }
        }
        Lampboard y = Desks.withGroup(1);
        y.fan(0, 0, 0, 255);
        Check.same("a lone lamp from 0", y.output(0, 0), 0);
        y.fan(0, 0, 255, 0);
        Check.same("a lone lamp from 255", y.output(0, 0), 255);
    }

    private static void fanWhereTheQuotientIsLessThanOne() {
        Lampboard x = Desks.withGroup(12);
        x.fan(0, 0, 9, 10);
        x.fan(0, 1, 10, 9);
        for (int lamp = 0; lamp < 11; lamp++) {
            Check.same("rising", x.output(lamp, 0), 9);
            Check.same("falling", x.output(lamp, 1), 10);
        }
        Check.same("rising to the last", x.output(11, 0), 10);
        Check.same("falling to the last", x.output(11, 1), 9);
    }

    // "spreads numbers over its lamps"
    private static void fanInPlaceOfOtherEntries() {
        Lampboard x = Desks.withGroup(2);
        x.addPalette(0, 200);
        x.point(0, 0);
        x.set(1, 0, 9);
        Check.same("in place of a palette and a number", x.fan(0, 0, 30, 40), 2);
        x.setPalette(0, 99);
        Check.same("a number", x.output(0, 0), 30);
        Check.same("a number", x.output(1, 0), 40);
        x.record(0);
        Check.refuses("no palette is in it", java.util.NoSuchElementException.class, () -> x.paletteOf(0, 0, 0, 0));
    }

    private static void fanOfAGroupAsItIsThen() {
        Lampboard x = Desks.withGroup(2);
        x.fan(0, 2, 10, 20);
        x.addLamp();
        x.addToGroup(0, 2);
        Check.same("a lamp that joins gets none", x.clear(), 2);
        x.fan(0, 2, 10, 20);
        Check.same("until the next fan", x.output(2, 2), 20);
        Check.same("the middle then", x.output(1, 2), 15);
    }

    // "the lamps whose light, as it is put out as a float, is greater than 0"
    private static void litLight() {
        Lampboard x = Desks.withGroup(2);
        x.fan(0, 0, 100, 100);
        x.record(0);
        x.go(0);
        Check.same("both, though not patched", x.litShare(), 1.0);
        x.setMaster(0, 0);
        Check.same("none at the master 0", x.litShare(), 0.0);
        x.setMaster(0, 1);
        Check.same("both at the master 1", x.litShare(), 1.0);
        Check.same("as an int", x.output(0, 0), 1);
        x.addEffect(0, 0, 'w', -4, 4, 3);
        x.start(0);
        Check.same("1 less 3 is not lit", x.litShare(), 0.5f);
        x.pass(1);
        Check.same("1 less 1 is not, 1 less 0 is", x.litShare(), 0.5f);
        x.set(0, 0, 0);
        x.stop(0);
        Check.same("one is set to 0", x.litShare(), 0.5f);
        x.set(1, 0, 0);
        x.set(1, 1, 255);
        Check.same("the light alone counts", x.litShare(), 0.0);
    }
}
