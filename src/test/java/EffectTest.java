import java.util.NoSuchElementException;

/** Promises 27 to 29: effects, and what they add. */
public final class EffectTest {
    public static void main(String[] args) {
        promise27AddEffect();
        promise27Refuses();
        promise27WhichComesFirst();
        promise28Start();
        promise29Stop();
        wavesByTime();
        wavesByPlace();
        groupsAsTheyAreThen();
        addedAndCutOff();
        Check.end();
    }

    private static void promise27AddEffect() {
        Lampboard x = Desks.withGroup(1);
        Check.same("addEffect", x.addEffect(0, 0, 'w', -255, 2, 0), 0);
        Check.same("addEffect", x.addEffect(0, 3, 't', 255, 20, 19), 1);
        Check.same("addEffect", x.addEffect(0, 1, 'q', 0, 2, 0), 2);
        Check.same("addEffect", x.addEffect(0, 1, 'q', 9, 2, 0), 3);
        Check.same("it does not run", x.output(0, 1), 0);
        Check.refuses("effect 5", IllegalStateException.class, () -> x.addEffect(0, 0, 'w', 0, 2, 0));
        Check.same("none ran", x.start(0), 1);
        Lampboard y = Desks.withGroup(2);
        y.addGroup();
        y.addToGroup(1, 1);
        y.addEffect(1, 1, 'q', 30, 2, 0);
        y.start(0);
        Check.same("of its group", y.output(1, 1), 30);
        Check.same("of no other group", y.output(0, 1), 0);
    }

    private static void promise27Refuses() {
        Lampboard x = Desks.withGroup(1);
        Check.refuses("attribute -1", IllegalArgumentException.class, () -> x.addEffect(0, -1, 'w', 0, 2, 0));
        Check.refuses("attribute 4", IllegalArgumentException.class, () -> x.addEffect(0, 4, 'w', 0, 2, 0));
        Check.refuses("shape W", IllegalArgumentException.class, () -> x.addEffect(0, 0, 'W', 0, 2, 0));
        Check.refuses("shape 0", IllegalArgumentException.class, () -> x.addEffect(0, 0, (char) 0, 0, 2, 0));
        Check.refuses("size -256", IllegalArgumentException.class, () -> x.addEffect(0, 0, 'w', -256, 2, 0));
        Check.refuses("size 256", IllegalArgumentException.class, () -> x.addEffect(0, 0, 'w', 256, 2, 0));
        Check.refuses("period 1", IllegalArgumentException.class, () -> x.addEffect(0, 0, 'w', 0, 1, 0));
        Check.refuses("period 0", IllegalArgumentException.class, () -> x.addEffect(0, 0, 'w', 0, 0, 0));
        Check.refuses("period 21", IllegalArgumentException.class, () -> x.addEffect(0, 0, 'w', 0, 21, 0));
        Check.refuses("spread -1", IllegalArgumentException.class, () -> x.addEffect(0, 0, 'w', 0, 2, -1));
        Check.refuses("spread 20", IllegalArgumentException.class, () -> x.addEffect(0, 0, 'w', 0, 2, 20));
        Check.refuses("none was added", NoSuchElementException.class, () -> x.start(0));
    }

    private static void promise27WhichComesFirst() {
        Lampboard x = Desks.withGroup(1);
        for (int effect = 0; effect < 4; effect++) {
            x.addEffect(0, 0, 'w', 0, 2, 0);
        }
        Check.refuses("group -1", NoSuchElementException.class, () -> x.addEffect(-1, 0, 'w', 0, 2, 0));
        Check.refuses("group ahead of all", NoSuchElementException.class, () -> x.addEffect(1, 4, 'x', 256, 1, 20));
        Check.refuses("attribute ahead of state", IllegalArgumentException.class, () -> x.addEffect(0, 4, 'w', 0, 2, 0));
        Check.refuses("spread ahead of state", IllegalArgumentException.class, () -> x.addEffect(0, 0, 'w', 0, 2, 20));
    }

    private static void promise28Start() {
        Lampboard x = Desks.withGroup(1);
        x.addEffect(0, 1, 'w', 100, 4, 0);
        x.addEffect(0, 2, 'w', 100, 4, 0);
        x.pass(3);
        Check.same("start", x.start(1), 1);
        x.pass(1);
        Check.same("start", x.start(0), 2);
        x.pass(1);
        Check.same("since its start", x.output(0, 1), 25);
        Check.same("since its start", x.output(0, 2), 50);
        Check.refuses("it runs", IllegalStateException.class, () -> x.start(0));
        Check.refuses("effect 2", NoSuchElementException.class, () -> x.start(2));
        Check.refuses("effect -1", NoSuchElementException.class, () -> x.start(-1));
        Check.same("nothing has changed", x.output(0, 1), 25);
    }

    private static void promise29Stop() {
        Lampboard x = Desks.withGroup(1);
        x.addEffect(0, 1, 'w', 100, 4, 0);
        x.addEffect(0, 1, 'w', 20, 4, 0);
        Check.refuses("it does not run", IllegalStateException.class, () -> x.stop(0));
        Check.refuses("effect 2", NoSuchElementException.class, () -> x.stop(2));
        Check.refuses("effect -1", NoSuchElementException.class, () -> x.stop(-1));
        x.start(0);
        x.start(1);
        x.pass(2);
        Check.same("both", x.output(0, 1), 60);
        Check.same("stop", x.stop(0), 1);
        Check.same("one", x.output(0, 1), 10);
        Check.refuses("it does not run", IllegalStateException.class, () -> x.stop(0));
        Check.same("started again", x.start(0), 2);
        x.pass(1);
        Check.same("from its new start", x.output(0, 1), 25 + 15);
        x.stop(1);
        Check.same("stop", x.stop(0), 0);
        Check.same("none", x.output(0, 1), 0);
    }

    private static float wave(char shape, float s, float q, float r) {
        if (shape == 'w') {
            return s * (q / r);
        }
        if (shape == 't') {
            return q + q <= r ? s * (2.0f * q / r) : s * (2.0f - 2.0f * q / r);
        }
        return q + q < r ? s : 0.0f;
    }

    private static void wavesByTime() {
        char[] shapes = {'w', 't', 'q'};
        for (char shape : shapes) {
            for (int period = 2; period <= 20; period++) {
                Lampboard x = Desks.withGroup(1);
                x.addEffect(0, 0, shape, 97, period, 0);
                x.addEffect(0, 1, shape, -97, period, 0);
                x.set(0, 1, 200);
                x.start(0);
                x.start(1);
                for (int time = 0; time <= 2 * period; time++) {
                    float due = wave(shape, 97.0f, time % period, period);
                    Check.same(shape + " of " + period + " at " + time, Desks.shown(x, 0, 0), due);
                    due = 200.0f + wave(shape, -97.0f, time % period, period);
                    Check.same(shape + " of " + period + " at " + time, Desks.shown(x, 0, 1), due);
                    x.pass(1);
                }
            }
        }
    }

    private static void wavesByPlace() {
        Lampboard x = Desks.withLamps(3);
        x.addGroup();
        x.addToGroup(0, 2);
        x.addToGroup(0, 0);
        x.addEffect(0, 2, 'w', 100, 10, 7);
        x.start(0);
        Check.same("place 0", x.output(2, 2), 0);
        Check.same("place 1", x.output(0, 2), 70);
        Check.same("not in the group", x.output(1, 2), 0);
        Check.same("another attribute", x.output(0, 1), 0);
        x.pass(4);
        Check.same("place 0", x.output(2, 2), 40);
        Check.same("place 1, modulo the period", x.output(0, 2), 10);
    }

    private static void groupsAsTheyAreThen() {
        Lampboard x = Desks.withGroup(1);
        x.addEffect(0, 1, 'q', 40, 4, 2);
        x.start(0);
        x.addLamp();
        Check.same("ahead of joining", x.output(1, 1), 0);
        x.addToGroup(0, 1);
        x.pass(2);
        Check.same("joined", x.output(1, 1), 40);
        Check.same("the other half of the period", x.output(0, 1), 0);
    }

    private static void addedAndCutOff() {
        Lampboard x = Desks.withGroup(1);
        x.addEffect(0, 0, 'q', 255, 20, 0);
        x.addEffect(0, 0, 'q', -200, 20, 0);
        x.addEffect(0, 0, 'q', -255, 20, 0);
        x.set(0, 0, 250);
        x.start(0);
        Check.same("cut off above", x.output(0, 0), 255);
        Check.same("cut off above", x.outputBits(0, 0), Float.floatToIntBits(255.0f));
        x.start(1);
        Check.same("cut off behind all of them", x.output(0, 0), 255);
        x.start(2);
        Check.same("cut off behind all of them", x.output(0, 0), 50);
        x.stop(0);
        Check.same("cut off below", x.outputBits(0, 0), 0);
        Check.same("who decides, without effects", x.decides(0, 0), 3);
        x.clear();
        Check.refuses("an effect does not decide", NoSuchElementException.class, () -> x.decides(0, 0));
    }
}
