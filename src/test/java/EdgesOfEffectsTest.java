/** The edges of what the terms say of effects; above each test stands its sentence. */
public final class EdgesOfEffectsTest {
    public static void main(String[] args) {
        atMostFour();
        fromStartToStop();
        theWaveAtItsEdges();
        modulo();
        moduloLateInTime();
        theSpreadOverPlaces();
        ofItsAttributeAlone();
        ofSizeZero();
        theGroupAsItIsThen();
        lampsOfTwoGroups();
        byRisingNumbers();
        onTheLines();
        Check.end();
    }

    // "At most 4 effects are numbered from 0."
    private static void atMostFour() {
        Lampboard x = Desks.withGroup(1);
        for (int effect = 0; effect < 4; effect++) {
            int next = effect;
            Check.refuses("start of one to come", java.util.NoSuchElementException.class, () -> x.start(next));
            Check.same("addEffect", x.addEffect(0, effect, 'q', 10 + effect, 2, 0), effect);
        }
        Check.refuses("one too many", IllegalStateException.class, () -> x.addEffect(0, 0, 'q', 1, 2, 0));
        Check.refuses("none came of it", java.util.NoSuchElementException.class, () -> x.start(4));
        for (int effect = 3; effect >= 0; effect--) {
            Check.same("it does not run", x.output(0, effect), 0);
            Check.same("start", x.start(effect), 4 - effect);
            Check.same("it runs", x.output(0, effect), 10 + effect);
        }
        for (int effect = 0; effect < 4; effect++) {
            Check.same("stop", x.stop(effect), 3 - effect);
            Check.same("it does not run any more", x.output(0, effect), 0);
        }
    }

    // "It runs from when it is started until it is stopped." and "the time since its start"
    private static void fromStartToStop() {
        Lampboard x = Desks.withGroup(1);
        x.addEffect(0, 1, 'w', 200, 20, 0);
        x.pass(13);
        x.start(0);
        for (int passed = 0; passed < 5; passed++) {
            Check.same("since its start", x.output(0, 1), 10 * passed);
            x.pass(1);
        }
        x.stop(0);
        Check.same("stopped", x.output(0, 1), 0);
        x.pass(3);
        x.start(0);
        Check.same("from the beginning again", x.output(0, 1), 0);
        x.pass(1);
        Check.same("since its last start", x.output(0, 1), 10);
        x.stop(0);
        x.start(0);
        Check.same("stopped and started at one time", x.output(0, 1), 0);
    }

    // "if 2 times q is not greater than r" and "if 2 times q is less than r", at q = 0, around the half and at r - 1
    private static void theWaveAtItsEdges() {
        float s = 90.0f;
        float[][] due = {
            {2, 0, 0, 0, 90}, {2, 1, 45, 90, 0}, {3, 0, 0, 0, 90}, {3, 1, s * (1.0f / 3.0f), s * (2.0f / 3.0f), 90},
            {3, 2, s * (2.0f / 3.0f), s * (2.0f - 4.0f / 3.0f), 0}, {20, 9, s * (9.0f / 20.0f), s * (18.0f / 20.0f), 90},
            {20, 10, 45, 90, 0}, {20, 11, s * (11.0f / 20.0f), s * (2.0f - 22.0f / 20.0f), 0},
            {20, 19, s * (19.0f / 20.0f), s * (2.0f - 38.0f / 20.0f), 0}, {19, 9, s * (9.0f / 19.0f), s * (18.0f / 19.0f), 90},
            {19, 10, s * (10.0f / 19.0f), s * (2.0f - 20.0f / 19.0f), 0},
        };
        for (float[] row : due) {
            for (int shape = 0; shape < 3; shape++) {
                Lampboard x = Desks.withGroup(1);
                x.addEffect(0, 2, "wtq".charAt(shape), 90, (int) row[0], 0);
                x.start(0);
                if (row[1] > 0) {
                    x.pass((int) row[1]);
                }
                Check.same("wtq".charAt(shape) + " of " + row[0] + " at " + row[1], Desks.shown(x, 0, 2), row[2 + shape]);
            }
        }
    }

    // "modulo the period"
    private static void modulo() {
        for (int period = 2; period <= 20; period++) {
            Lampboard x = Desks.withGroup(1);
            x.addEffect(0, 1, 'w', 60, period, 0);
            x.start(0);
            x.pass(period - 1);
            Check.same("at its end", Desks.shown(x, 0, 1), 60.0f * ((float) (period - 1) / (float) period));
            x.pass(1);
            Check.same("at 0 again", Desks.shown(x, 0, 1), 0.0f);
            x.pass(1);
            Check.same("at 1 again", Desks.shown(x, 0, 1), 60.0f * (1.0f / (float) period));
        }
    }

    private static void moduloLateInTime() {
        Lampboard x = Desks.withGroup(12);
        x.addEffect(0, 1, 'w', 255, 19, 19);
        x.addEffect(0, 2, 'w', 255, 7, 18);
        x.pass(1);
        x.start(0);
        x.start(1);
        for (int turn = 0; turn < 166; turn++) {
            x.pass(30);
        }
        x.pass(19);
        Check.same("time", x.time(), 5000);
        for (int place = 0; place < 12; place++) {
            float first = 255.0f * ((float) ((4999 + 19 * place) % 19) / 19.0f);
            float second = 255.0f * ((float) ((4999 + 18 * place) % 7) / 7.0f);
            Check.same("place " + place, Desks.shown(x, place, 1), first);
            Check.same("place " + place, Desks.shown(x, place, 2), second);
        }
    }

    // "plus j times the spread"
    private static void theSpreadOverPlaces() {
        for (int spread : new int[] {0, 1, 9, 10, 18, 19}) {
            Lampboard x = Desks.withLamps(12);
            x.addGroup();
            for (int place = 0; place < 12; place++) {
                x.addToGroup(0, (5 * place + 3) % 12);
            }
            x.addEffect(0, 3, 'w', 200, 20, spread);
            x.start(0);
            x.pass(2);
            for (int place = 0; place < 12; place++) {
                float due = 200.0f * ((float) ((2 + place * spread) % 20) / 20.0f);
                Check.same("spread " + spread + ", place " + place, Desks.shown(x, (5 * place + 3) % 12, 3), due);
            }
        }
    }

    // "An effect is of a group and an attribute"
    private static void ofItsAttributeAlone() {
        for (int attribute = 0; attribute < 4; attribute++) {
            Lampboard x = Desks.withGroup(1);
            x.addLamp();
            x.addEffect(0, attribute, 'q', 33, 2, 0);
            x.start(0);
            for (int other = 0; other < 4; other++) {
                Check.same("of the lamp in the group", x.output(0, other), other == attribute ? 33 : 0);
                Check.same("of the lamp beside it", x.output(1, other), 0);
            }
        }
    }

    private static void ofSizeZero() {
        Lampboard x = Desks.withGroup(1);
        for (int shape = 0; shape < 3; shape++) {
            x.addEffect(0, 1, "wtq".charAt(shape), 0, 4, 0);
            x.start(shape);
        }
        for (int passed = 0; passed < 5; passed++) {
            Check.same("nothing is added", x.outputBits(0, 1), 0);
            x.set(0, 1, 77);
            Check.same("nothing is added", Desks.shown(x, 0, 1), 77.0);
            x.clear();
            x.pass(1);
        }
        Check.same("all of them run", x.stop(0), 2);
    }

    // "The group is as it is then."
    private static void theGroupAsItIsThen() {
        Lampboard x = Desks.withLamps(2);
        x.addGroup();
        x.addEffect(0, 1, 'w', 100, 10, 5);
        Check.same("start of an effect of a group without lamps", x.start(0), 1);
        x.pass(2);
        Check.same("nothing yet", x.output(0, 1) + x.output(1, 1), 0);
        x.addToGroup(0, 1);
        Check.same("the first place", x.output(1, 1), 20);
        x.addToGroup(0, 0);
        Check.same("the second place", x.output(0, 1), 70);
        Check.same("the first place stays", x.output(1, 1), 20);
    }

    private static void lampsOfTwoGroups() {
        Lampboard x = Desks.withGroup(2);
        for (int group = 1; group < 6; group++) {
            x.addGroup();
        }
        x.addToGroup(5, 1);
        x.addToGroup(5, 0);
        x.addEffect(0, 1, 'w', 100, 10, 3);
        x.addEffect(5, 1, 'w', 50, 10, 1);
        x.start(0);
        x.start(1);
        x.pass(2);
        Check.same("place 0 of the one, place 1 of the other", x.output(0, 1), 20 + 15);
        Check.same("place 1 of the one, place 0 of the other", x.output(1, 1), 50 + 10);
    }

    // "Then effects that run are added, by rising numbers."
    private static void byRisingNumbers() {
        int[] periods = {3, 7, 11, 13};
        int[] sizes = {251, -199, 101, 97};
        Lampboard x = Desks.withGroup(1);
        for (int effect = 0; effect < 4; effect++) {
            x.addEffect(0, 1, 'w', sizes[effect], periods[effect], 0);
        }
        for (int effect : new int[] {2, 0, 3, 1}) {
            x.start(effect);
        }
        boolean orderMatters = false;
        for (int time = 0; time < 120; time++) {
            float rising = 0.0f;
            float falling = 0.0f;
            for (int effect = 0; effect < 4; effect++) {
                int last = 3 - effect;
                rising = rising + sizes[effect] * ((float) (time % periods[effect]) / periods[effect]);
                falling = falling + sizes[last] * ((float) (time % periods[last]) / periods[last]);
            }
            float due = rising < 0.0f ? 0.0f : rising > 255.0f ? 255.0f : rising;
            Check.same("at " + time, x.outputBits(0, 1), Float.floatToIntBits(due));
            orderMatters |= rising != falling && rising > 0.0f && rising < 255.0f;
            x.pass(1);
        }
        Check.is("there was a time at which another order would give another float", orderMatters);
    }

    private static void onTheLines() {
        Lampboard x = Desks.withGroup(2);
        x.patch(1, 60);
        x.addEffect(0, 3, 't', 255, 20, 10);
        x.start(0);
        Check.same("place 1 at its greatest, on the last line", x.line(63), 255);
        Check.same("place 0 is on no line", x.sum(), 255);
        Check.is("sound", x.isSound());
        x.pass(5);
        Check.same("half of it", x.line(63), 127);
        Check.is("sound", x.isSound());
        x.stop(0);
        Check.same("stopped", x.sum(), 0);
    }
}
