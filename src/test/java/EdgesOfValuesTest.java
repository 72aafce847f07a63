/** The edges of what the terms say of the values of fades and of what is put out; above each test stands its sentence. */
public final class EdgesOfValuesTest {
    public static void main(String[] args) {
        theValueOfAFade();
        theShapeAtOnce();
        theFormulaInFloats();
        overOrNot();
        anEntryOfTheProgrammer();
        greatestPriority();
        priorityWithoutAFade();
        theGreatestLight();
        ofListsWithTheSame();
        eachMaster();
        theLatestFade();
        ofEachLampAlike();
        withoutAny();
        lessThanZeroAndGreaterThanMost();
        behindThePoint();
        bitsAheadOfLeavingOut();
        Check.end();
    }

    private static float due(float b, float e, int delay, int fade, int passed) {
        if (passed < delay) {
            return b;
        }
        int since = passed - delay;
        return since >= fade ? e : b + (e - b) * ((float) since / (float) fade);
    }

    // "as long as the time is ahead of its start ... if it takes no time, or as much time has passed since its start as it takes
    // or more ... otherwise"
    private static void theValueOfAFade() {
        int[][] ways = {{0, 255}, {255, 0}, {255, 255}, {0, 0}, {3, 4}, {200, 37}};
        for (int delay : new int[] {0, 1, 9}) {
            for (int fade : new int[] {0, 1, 2, 3, 20}) {
                for (int[] way : ways) {
                    Lampboard x = Desks.withLamps(1);
                    Desks.cue(x, 0, 0, 0, way[1]);
                    Desks.cue(x, 1, 0, 2, way[1]);
                    x.setTimes(0, 0, delay, fade);
                    x.setTimes(1, 0, delay, fade);
                    x.set(0, 0, way[0]);
                    x.set(0, 2, way[0]);
                    x.go(0);
                    x.go(1);
                    x.clear();
                    for (int passed = 0; passed <= delay + fade + 1; passed++) {
                        float value = due(way[0], way[1], delay, fade, passed);
                        String at = way[0] + " to " + way[1] + ", delay " + delay + ", fade " + fade + ", passed " + passed;
                        Check.same("light " + at, x.outputBits(0, 0), Float.floatToIntBits(value));
                        Check.same("direction " + at, x.outputBits(0, 2), Float.floatToIntBits(value));
                        Check.same("as an int " + at, x.valueIn(1, 0, 2), (int) value);
                        x.pass(1);
                    }
                }
            }
        }
    }

    // "with the attribute 3 ... it is the value of the entry as it is then"
    private static void theShapeAtOnce() {
        for (int delay : new int[] {0, 1, 9}) {
            for (int fade : new int[] {0, 1, 20}) {
                Lampboard x = Desks.withLamps(1);
                x.addPalette(3, 70);
                x.point(0, 0);
                x.record(0);
                x.setTimes(0, 0, delay, fade);
                x.set(0, 3, 9);
                x.go(0);
                x.clear();
                for (int passed = 0; passed <= delay + fade + 1; passed++) {
                    x.setPalette(0, 70 + passed);
                    String at = "shape, delay " + delay + ", fade " + fade + ", passed " + passed;
                    Check.same(at, x.output(0, 3), passed < delay ? 9 : 70 + passed);
                    Check.is(at, x.isFading(0) == passed < delay + fade);
                    x.pass(1);
                }
            }
        }
    }

    // "All values are reckoned as Java's float." and "b + (e - b) * p"
    private static void theFormulaInFloats() {
        boolean roundsOtherwise = false;
        for (int fade = 1; fade <= 20; fade++) {
            Lampboard x = Desks.withLamps(1);
            Desks.cue(x, 0, 0, 1, 251);
            Desks.cue(x, 0, 0, 1, 13);
            x.setTimes(0, 0, 0, fade);
            x.setTimes(0, 1, 0, fade);
            x.goTo(0, 0);
            float b = 0.0f;
            float e = 251.0f;
            for (int turn = 0; turn < 6; turn++) {
                x.pass(1);
                if (fade > 1) {
                    x.pass(1);
                }
                int passed = fade > 1 ? 2 : 1;
                float value = due(b, e, 0, fade, passed);
                Check.same("turn " + turn + " of fade " + fade, x.outputBits(0, 1), Float.floatToIntBits(value));
                roundsOtherwise |= value != (float) (b + ((double) e - b) * passed / fade);
                e = turn % 2 == 0 ? 13.0f : 251.0f;
                b = value;
                x.goTo(0, turn % 2 == 0 ? 1 : 0);
            }
        }
        Check.is("there was a value that doubles would give otherwise", roundsOtherwise);
    }

    // "a fade that is not over: whose start is not reached, or less time has passed since it than it takes"
    private static void overOrNot() {
        Lampboard x = Desks.withLamps(2);
        Desks.cue(x, 2, 0, 1, 9);
        Desks.cue(x, 2, 1, 3, 9);
        Check.is("an empty list", !x.isFading(0));
        Check.is("a list without a present cue", !x.isFading(2));
        x.setTimes(2, 0, 0, 5);
        x.go(2);
        x.pass(3);
        x.go(2);
        Check.is("the kept one is not over", x.isFading(2));
        x.pass(1);
        Check.is("in its last step", x.isFading(2));
        x.pass(1);
        Check.is("all are over", !x.isFading(2));
        x.setTimes(2, 1, 9, 0);
        x.goTo(2, 1);
        Check.is("one of the last lamp waits", x.isFading(2));
        Check.is("in this list alone", !x.isFading(0) && !x.isFading(1));
        x.goTo(2, 0);
        x.pass(4);
        Check.is("the one that waited is gone, its own goes on", x.isFading(2));
        x.release(2);
        Check.is("released", !x.isFading(2));
    }

    // "an entry of the programmer decides alone"
    private static void anEntryOfTheProgrammer() {
        Lampboard x = Desks.withLamps(1);
        x.addPalette(1, 0);
        for (int attribute = 0; attribute < 4; attribute++) {
            Desks.cue(x, 0, 0, attribute, 255);
        }
        x.goTo(0, 3);
        x.setPriority(0, 9);
        for (int attribute = 0; attribute < 4; attribute++) {
            Check.same("the list", x.decides(0, attribute), 0);
            x.set(0, attribute, 0);
            Check.same("the programmer, even with 0", x.decides(0, attribute), 3);
            Check.same("its number", x.output(0, attribute), 0);
        }
        x.point(0, 0);
        x.setPalette(0, 31);
        Check.same("its palette", x.output(0, 1), 31);
        x.setMaster(0, 0);
        x.set(0, 0, 255);
        Check.same("no master on it", x.output(0, 0), 255);
        x.knockOut(0, 1);
        Check.same("the list again", x.decides(0, 1), 0);
        x.clear();
        Check.same("the list again", x.decides(0, 3), 0);
    }

    // "of the lists that have a fade for it, those with the greatest priority"
    private static void greatestPriority() {
        for (int attribute = 0; attribute < 4; attribute++) {
            Lampboard x = Desks.withLamps(1);
            for (int list = 0; list < 3; list++) {
                Desks.cue(x, list, 0, attribute, 100 + list);
                x.go(list);
            }
            Check.same("all with 5", x.decides(0, attribute), 2);
            x.setPriority(2, 4);
            Check.same("two with 5", x.decides(0, attribute), 1);
            x.setPriority(0, 9);
            Check.same("one with 9", x.decides(0, attribute), 0);
            x.setPriority(1, 9);
            Check.same("two with 9", x.decides(0, attribute), 1);
            x.setPriority(0, 0);
            x.setPriority(1, 0);
            Check.same("4 ahead of two with 0", x.decides(0, attribute), 2);
            x.setPriority(2, 0);
            Check.same("all with 0", x.decides(0, attribute), 2);
        }
    }

    private static void priorityWithoutAFade() {
        Lampboard x = Desks.withLamps(1);
        Desks.cue(x, 0, 0, 0, 30);
        Desks.cue(x, 1, 0, 1, 40);
        x.setPriority(0, 0);
        x.setPriority(1, 9);
        x.setPriority(2, 9);
        x.go(0);
        x.go(1);
        Check.same("a list has no say where it has no fade", x.decides(0, 0), 0);
        Check.same("value", x.output(0, 0), 30);
        x.release(1);
        Check.refuses("nobody", java.util.NoSuchElementException.class, () -> x.decides(0, 1));
    }

    // "for the attribute 0, the greatest one of their values"
    private static void theGreatestLight() {
        for (int greatest = 0; greatest < 3; greatest++) {
            Lampboard x = Desks.withLamps(1);
            for (int list = 0; list < 3; list++) {
                Desks.cue(x, list, 0, 0, list == greatest ? 8 : 7);
            }
            for (int first = 0; first < 3; first++) {
                for (int turn = 0; turn < 3; turn++) {
                    x.goTo((first + turn) % 3, 0);
                }
                Check.same("whichever began at last", x.decides(0, 0), greatest);
                Check.same("its value", x.output(0, 0), 8);
            }
        }
        Lampboard y = Desks.withLamps(1);
        Desks.cue(y, 0, 0, 0, 100);
        Desks.cue(y, 1, 0, 0, 200);
        y.setTimes(1, 0, 0, 4);
        y.goTo(1, 0);
        y.goTo(0, 0);
        Check.same("as it is at the time", y.decides(0, 0), 0);
        y.pass(1);
        Check.same("still less", y.decides(0, 0), 0);
        y.pass(1);
        Check.same("the same", y.decides(0, 0), 0);
        y.pass(1);
        Check.same("more", y.decides(0, 0), 1);
        Check.same("value", y.output(0, 0), 150);
    }

    // "of lists with the same, the one with the lowest number decides"
    private static void ofListsWithTheSame() {
        Lampboard x = Desks.withLamps(1);
        for (int list = 2; list >= 0; list--) {
            Desks.cue(x, list, 0, 0, list == 1 ? 200 : 100);
            x.go(list);
        }
        x.setMaster(1, 50);
        Check.same("the same with the masters", x.decides(0, 0), 0);
        x.release(0);
        Check.same("of the two others", x.decides(0, 0), 1);
        x.go(0);
        for (int list = 0; list < 3; list++) {
            x.setMaster(list, 0);
        }
        Check.same("all at 0", x.decides(0, 0), 0);
        x.setPriority(0, 4);
        Check.same("the lowest number of those that meet", x.decides(0, 0), 1);
        Check.same("0", x.outputBits(0, 0), 0);
    }

    // "each one multiplied by what comes of the master of its list, converted to float, divided by 100.0f"
    private static void eachMaster() {
        Lampboard x = Desks.withLamps(1);
        Desks.cue(x, 0, 0, 0, 253);
        x.go(0);
        boolean roundsOtherwise = false;
        for (int master = 0; master <= 100; master++) {
            x.setMaster(0, master);
            float due = 253.0f * ((float) master / 100.0f);
            Check.same("master " + master, x.outputBits(0, 0), Float.floatToIntBits(due));
            Check.same("as an int at " + master, x.output(0, 0), (int) due);
            Check.same("without it", x.valueIn(0, 0, 0), 253);
            roundsOtherwise |= due != 253.0f * (float) master / 100.0f;
        }
        Check.is("there was a master that another order of reckoning gives otherwise", roundsOtherwise);
    }

    // "for other attributes, the value of the list whose fade is the latest"
    private static void theLatestFade() {
        for (int attribute = 1; attribute < 4; attribute++) {
            Lampboard x = Desks.withLamps(1);
            Desks.cue(x, 0, 0, attribute, 255);
            Desks.cue(x, 1, 0, attribute, 0);
            Desks.cue(x, 2, 0, attribute, 9);
            x.go(2);
            x.go(0);
            x.go(1);
            Check.same("the latest, not the greatest", x.output(0, attribute), 0);
            x.setMaster(1, 0);
            x.setMaster(0, 50);
            Check.same("masters have no say", x.decides(0, attribute), 1);
            x.release(1);
            Check.same("the latest of the others", x.output(0, attribute), 255);
            x.release(0);
            Check.same("the last one", x.output(0, attribute), 9);
        }
    }

    // "For an attribute of a lamp", whichever lamp it is
    private static void ofEachLampAlike() {
        Lampboard x = Desks.withGroup(12);
        for (int list = 0; list < 3; list++) {
            for (int attribute = 0; attribute < 4; attribute++) {
                x.fan(0, attribute, 90 - 10 * list, 90 - 10 * list);
            }
            x.record(list);
            x.setTimes(list, 0, 0, 4);
            x.go(list);
        }
        x.pass(1);
        for (int lamp = 0; lamp < 12; lamp++) {
            Check.same("the greatest light of lamp " + lamp, x.decides(lamp, 0), 0);
            Check.same("its value", Desks.shown(x, lamp, 0), 22.5);
            for (int attribute = 1; attribute < 4; attribute++) {
                Check.same("the latest attribute " + attribute + " of lamp " + lamp, x.decides(lamp, attribute), 2);
                Check.same("its value", Desks.shown(x, lamp, attribute), attribute == 3 ? 70.0 : 17.5);
            }
        }
        x.setMaster(0, 50);
        Check.same("the next one, with the master, of the first lamp", x.decides(0, 0), 1);
        Check.same("the next one, with the master, of the last lamp", x.decides(11, 0), 1);
        Check.same("masters are for the light alone", Desks.shown(x, 11, 2), 17.5);
    }

    // "Without any, it is 0."
    private static void withoutAny() {
        Lampboard x = Desks.withLamps(12);
        for (int slot = 0; slot < 48; slot++) {
            int its = slot;
            Check.same("nothing", x.outputBits(slot / 4, slot % 4), 0);
            Check.refuses("nobody", java.util.NoSuchElementException.class, () -> x.decides(its / 4, its % 4));
        }
        x.patch(11, 60);
        Check.same("on a line", x.line(63), 0);
    }

    // "Behind all of them, what is less than 0 is 0, what is greater than 255 is 255"
    private static void lessThanZeroAndGreaterThanMost() {
        Lampboard x = Desks.withGroup(1);
        x.addEffect(0, 1, 'w', 255, 2, 0);
        x.addEffect(0, 1, 'w', -255, 2, 0);
        x.patch(0, 0);
        x.start(0);
        x.start(1);
        x.pass(1);
        x.stop(1);
        x.set(0, 1, 127);
        Check.same("just less than 255", Desks.shown(x, 0, 1), 254.5);
        x.set(0, 1, 128);
        Check.same("greater than 255", Desks.shown(x, 0, 1), 255.0);
        Check.same("on the line, too", x.line(1), 255);
        x.set(0, 1, 255);
        Check.same("much greater", x.output(0, 1), 255);
        x.stop(0);
        Check.same("255 itself", Desks.shown(x, 0, 1), 255.0);
        x.pass(1);
        x.start(1);
        x.pass(1);
        x.set(0, 1, 128);
        Check.same("just greater than 0", Desks.shown(x, 0, 1), 0.5);
        Check.same("on the line", x.line(1), 0);
        x.set(0, 1, 127);
        Check.same("less than 0", x.outputBits(0, 1), 0);
        x.set(0, 1, 0);
        Check.same("much less", x.outputBits(0, 1), 0);
        Check.same("sum", x.sum(), 0);
    }

    // "on the line, what is behind the point is left out"
    private static void behindThePoint() {
        Lampboard x = Desks.withLamps(1);
        x.patch(0, 60);
        Desks.cue(x, 0, 0, 0, 255);
        Desks.cue(x, 0, 0, 0, 0);
        x.setTimes(0, 1, 0, 20);
        x.go(0);
        x.go(0);
        int[] due = {255, 242, 229, 216, 204, 191, 178, 165, 153, 140, 127, 114, 102, 89, 76, 63, 51, 38, 25, 12, 0};
        for (int passed = 0; passed <= 20; passed++) {
            Check.same("on the line, passed " + passed, x.line(60), due[passed]);
            Check.same("output, passed " + passed, x.output(0, 0), due[passed]);
            Check.same("valueIn, passed " + passed, x.valueIn(0, 0, 0), due[passed]);
            Check.same("sum, passed " + passed, x.sum(), due[passed]);
            x.pass(1);
        }
    }

    // "the bits of what is put out ahead of leaving out what is behind the point"
    private static void bitsAheadOfLeavingOut() {
        Lampboard x = Desks.withGroup(1);
        x.addEffect(0, 1, 'w', 1, 20, 0);
        x.start(0);
        for (int at = 0; at < 20; at++) {
            Check.same("bits of " + at + " twentieths", x.outputBits(0, 1), Float.floatToIntBits((float) at / 20.0f));
            Check.same("as an int", x.output(0, 1), 0);
            x.pass(1);
        }
        x.set(0, 1, 255);
        Check.same("bits of the greatest", x.outputBits(0, 1), 0x437f0000);
        x.set(0, 1, 1);
        Check.same("bits of 1", x.outputBits(0, 1), 0x3f800000);
        x.set(0, 1, 0);
        Check.same("bits of 0", x.outputBits(0, 1), 0);
    }
}
