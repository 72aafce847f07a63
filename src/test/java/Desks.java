/** Desks that several tests begin with. */
final class Desks {
    private Desks() {
    }

    static Lampboard withLamps(int lamps) {
        Lampboard x = new Lampboard();
        for (int lamp = 0; lamp < lamps; lamp++) {
            x.addLamp();
        }
        return x;
    }

    /** With a group 0 of all lamps, by rising numbers. */
    static Lampboard withGroup(int lamps) {
        Lampboard x = withLamps(lamps);
        x.addGroup();
        for (int lamp = 0; lamp < lamps; lamp++) {
            x.addToGroup(0, lamp);
        }
        return x;
    }

    /** Records a cue that stores one number. */
    static int cue(Lampboard x, int list, int lamp, int attribute, int value) {
        x.set(lamp, attribute, value);
        return x.record(list);
    }

    static float shown(Lampboard x, int lamp, int attribute) {
        return Float.intBitsToFloat(x.outputBits(lamp, attribute));
    }
}
