import java.util.NoSuchElementException;

/** A lighting desk. This class looks at what it is given and refuses; the desks inside it do the acts. */
public final class Lampboard {
    private static final int NONE = -1;
    private static final int LAMPS = 12;
    private static final int ATTRIBUTES = 4;
    private static final int LIGHT = 0;
    private static final int SHAPE = 3;
    // A slot is one attribute of one lamp; by rising slots is by rising lamps, then attributes.
    private static final int SLOTS = LAMPS * ATTRIBUTES;
    private static final int LINES = 64;
    private static final int LAST_PATCH = LINES - ATTRIBUTES;
    private static final int GROUPS = 6;
    private static final int PALETTES = 8;
    private static final int LISTS = 3;
    private static final int PROGRAMMER = LISTS;
    private static final int CUES = 12;
    private static final int EFFECTS = 4;
    private static final int MOST = 255;
    // An entry is one int: up to MOST it is a number, from here on it is a palette.
    private static final int FIRST_PALETTE = MOST + 1;
    private static final int LEAST_PERIOD = 2;
    private static final int LAST_TIME = 5000;

    private final Desk desk = new Desk();
    // Does each act a second time, by itself, so that isSound has a second desk to look at.
    private final Desk twin = new Desk();

    public Lampboard() {
    }

    public int addLamp() throws IllegalStateException {
        if (desk.lamps >= LAMPS) {
            throw new IllegalStateException("no more lamps");
        }
        twin.placeLamp();
        return desk.placeLamp();
    }

    public int patch(int lamp, int line) throws IndexOutOfBoundsException, IllegalArgumentException, IllegalStateException {
        needLamp(lamp);
        needRange(line, NONE, LAST_PATCH);
        if (line != NONE && desk.meetsAnotherLamp(lamp, line)) {
            throw new IllegalStateException("a line is of another lamp");
        }
        twin.moveLamp(lamp, line);
        return desk.moveLamp(lamp, line);
    }

    public int addGroup() throws IllegalStateException {
        if (desk.groupCount >= GROUPS) {
            throw new IllegalStateException("no more groups");
        }
        twin.formGroup();
        return desk.formGroup();
    }

    public int addToGroup(int group, int lamp) throws NoSuchElementException, IndexOutOfBoundsException, IllegalStateException {
        needGroup(group);
        needLamp(lamp);
        if (desk.groups[group].placeOf(lamp) != NONE) {
            throw new IllegalStateException("the lamp is in the group");
        }
        twin.groups[group].join(lamp);
        return desk.groups[group].join(lamp);
    }

    public int addPalette(int attribute, int value) throws IllegalArgumentException, IllegalStateException {
        needAttribute(attribute);
        needRange(value, 0, MOST);
        if (desk.palettes.count >= PALETTES) {
            throw new IllegalStateException("no more palettes");
        }
        twin.palettes.mix(attribute, value);
        return desk.palettes.mix(attribute, value);
    }

    public int setPalette(int palette, int value) throws NoSuchElementException, IllegalArgumentException {
        needPalette(palette);
        needRange(value, 0, MOST);
        twin.palettes.change(palette, value);
        return desk.palettes.change(palette, value);
    }

    public int set(int lamp, int attribute, int value) throws IndexOutOfBoundsException, IllegalArgumentException {
        needSlot(lamp, attribute);
        needRange(value, 0, MOST);
        int slot = slotOf(lamp, attribute);
        twin.programmer.put(slot, value);
        return desk.programmer.put(slot, value);
    }

    public int point(int lamp, int palette) throws IndexOutOfBoundsException, NoSuchElementException {
        needLamp(lamp);
        needPalette(palette);
        int slot = slotOf(lamp, desk.palettes.attributes[palette]);
        twin.programmer.put(slot, FIRST_PALETTE + palette);
        return desk.programmer.put(slot, FIRST_PALETTE + palette);
    }

    public int fan(int group, int attribute, int first, int last) throws NoSuchElementException, IllegalArgumentException {
        needGroup(group);
        needAttribute(attribute);
        needRange(first, 0, MOST);
        needRange(last, 0, MOST);
        twin.spreadOver(group, attribute, first, last);
        return desk.spreadOver(group, attribute, first, last);
    }

    public int knockOut(int lamp, int attribute) throws IndexOutOfBoundsException, IllegalArgumentException, NoSuchElementException {
        needSlot(lamp, attribute);
        int slot = slotOf(lamp, attribute);
        if (!desk.programmer.has(slot)) {
            throw new NoSuchElementException("no such entry");
        }
        twin.programmer.drop(slot);
        return desk.programmer.drop(slot);
    }

    public int clear() {
        twin.programmer.empty();
        return desk.programmer.empty();
    }

    public int record(int list) throws IndexOutOfBoundsException, UnsupportedOperationException, IllegalStateException {
        needList(list);
        if (desk.programmer.count == 0) {
            throw new UnsupportedOperationException("nothing to record");
        }
        if (desk.lists[list].count >= CUES) {
            throw new IllegalStateException("no more cues");
        }
        twin.storeCue(list);
        return desk.storeCue(list);
    }

    public int setTimes(int list, int cue, int delay, int fade) throws IndexOutOfBoundsException, IllegalArgumentException {
        needCue(list, cue);
        needRange(delay, 0, 9);
        needRange(fade, 0, 20);
        twin.cueAt(list, cue).changeTimes(delay, fade);
        return desk.cueAt(list, cue).changeTimes(delay, fade);
    }

    public int setFollow(int list, int cue, int follow) throws IndexOutOfBoundsException, IllegalArgumentException {
        needCue(list, cue);
        if (follow != NONE) {
            needRange(follow, 1, 20);
        }
        twin.cueAt(list, cue).changeFollow(follow);
        return desk.cueAt(list, cue).changeFollow(follow);
    }

    public int setLink(int list, int cue, int to) throws IndexOutOfBoundsException, IllegalArgumentException {
        needCue(list, cue);
        needRange(to, NONE, CUES - 1);
        twin.cueAt(list, cue).changeLink(to);
        return desk.cueAt(list, cue).changeLink(to);
    }

    public int setCode(int list, int cue, int code) throws IndexOutOfBoundsException, IllegalArgumentException {
        needCue(list, cue);
        needRange(code, NONE, 999);
        twin.cueAt(list, cue).changeCode(code);
        return desk.cueAt(list, cue).changeCode(code);
    }

    public boolean setAssert(int list, int cue, boolean is) throws IndexOutOfBoundsException {
        needCue(list, cue);
        twin.cueAt(list, cue).changeAssert(is);
        return desk.cueAt(list, cue).changeAssert(is);
    }

    public int setMaster(int list, int master) throws IndexOutOfBoundsException, IllegalArgumentException {
        needList(list);
        needRange(master, 0, 100);
        twin.lists[list].changeMaster(master);
        return desk.lists[list].changeMaster(master);
    }

    public int setPriority(int list, int priority) throws IndexOutOfBoundsException, IllegalArgumentException {
        needList(list);
        needRange(priority, 0, 9);
        twin.lists[list].changePriority(priority);
        return desk.lists[list].changePriority(priority);
    }

    public int go(int list) throws IndexOutOfBoundsException, IllegalStateException {
        needList(list);
        if (desk.lists[list].nextCue() == NONE) {
            throw new IllegalStateException("no next cue");
        }
        twin.advance(list);
        return desk.advance(list);
    }

    public int goTo(int list, int cue) throws IndexOutOfBoundsException {
        needCue(list, cue);
        twin.begin(list, cue);
        return desk.begin(list, cue);
    }

    public int release(int list) throws IndexOutOfBoundsException, IllegalStateException {
        needPresentCue(list);
        twin.lists[list].letGo();
        return desk.lists[list].letGo();
    }

    public int update(int list) throws IndexOutOfBoundsException, IllegalStateException {
        needPresentCue(list);
        twin.updateList(list);
        return desk.updateList(list);
    }

    public int pass(int steps) throws IllegalArgumentException, IllegalStateException {
        needRange(steps, 1, 30);
        if (desk.time + steps > LAST_TIME) {
            throw new IllegalStateException("too late");
        }
        twin.goOn(steps);
        return desk.goOn(steps);
    }

    public int code(int code) throws IllegalArgumentException {
        needRange(code, 0, 999);
        twin.takeCode(code);
        return desk.takeCode(code);
    }

    public int addEffect(int group, int attribute, char shape, int size, int period, int spread) throws NoSuchElementException, IllegalArgumentException, IllegalStateException {
        needGroup(group);
        needAttribute(attribute);
        if (shape != 'w' && shape != 't' && shape != 'q') {
            throw new IllegalArgumentException("no such shape");
        }
        needRange(size, -MOST, MOST);
        needRange(period, LEAST_PERIOD, 20);
        needRange(spread, 0, 19);
        if (desk.effectCount >= EFFECTS) {
            throw new IllegalStateException("no more effects");
        }
        twin.nextEffect().describe(group, attribute, shape, size, period, spread);
        desk.nextEffect().describe(group, attribute, shape, size, period, spread);
        return desk.effectCount - 1;
    }

    public int start(int effect) throws NoSuchElementException, IllegalStateException {
        needEffect(effect);
        if (desk.effects[effect].runs()) {
            throw new IllegalStateException("the effect runs");
        }
        return runEffect(effect, desk.time);
    }

    public int stop(int effect) throws NoSuchElementException, IllegalStateException {
        needEffect(effect);
        if (!desk.effects[effect].runs()) {
            throw new IllegalStateException("the effect does not run");
        }
        return runEffect(effect, NONE);
    }

    public int output(int lamp, int attribute) throws IndexOutOfBoundsException, IllegalArgumentException {
        needSlot(lamp, attribute);
        return (int) desk.shown(slotOf(lamp, attribute));
    }

    public int outputBits(int lamp, int attribute) throws IndexOutOfBoundsException, IllegalArgumentException {
        needSlot(lamp, attribute);
        return bitsOf(desk.shown(slotOf(lamp, attribute)));
    }

    public int line(int line) throws IllegalArgumentException {
        needRange(line, 0, LINES - 1);
        return desk.lineValue(line);
    }

    public int decides(int lamp, int attribute) throws IndexOutOfBoundsException, IllegalArgumentException, NoSuchElementException {
        needSlot(lamp, attribute);
        int decider = desk.decider(slotOf(lamp, attribute));
        if (decider == NONE) {
            throw new NoSuchElementException("nobody decides");
        }
        return decider;
    }

    public int valueIn(int list, int lamp, int attribute) throws IndexOutOfBoundsException, IllegalArgumentException, NoSuchElementException {
        needList(list);
        needSlot(lamp, attribute);
        int slot = slotOf(lamp, attribute);
        if (!desk.lists[list].hasFade(slot)) {
            throw new NoSuchElementException("no such fade");
        }
        return (int) desk.lists[list].fadeValue(slot, desk.time, desk.palettes);
    }

    public int tracked(int list, int cue, int lamp, int attribute) throws IndexOutOfBoundsException, IllegalArgumentException, NoSuchElementException {
        return desk.palettes.numberOf(needEntry(list, cue, lamp, attribute));
    }

    public int source(int list, int cue, int lamp, int attribute) throws IndexOutOfBoundsException, IllegalArgumentException, NoSuchElementException {
        needEntry(list, cue, lamp, attribute);
        return desk.lists[list].sourceOf(cue, slotOf(lamp, attribute));
    }

    public int paletteOf(int list, int cue, int lamp, int attribute) throws IndexOutOfBoundsException, IllegalArgumentException, NoSuchElementException {
        int entry = needEntry(list, cue, lamp, attribute);
        if (!isPalette(entry)) {
            throw new NoSuchElementException("the entry is a number");
        }
        return entry - FIRST_PALETTE;
    }

    public int cueOf(int list) throws IndexOutOfBoundsException, NoSuchElementException {
        needList(list);
        int present = desk.lists[list].present;
        if (present == NONE) {
            throw new NoSuchElementException("no present cue");
        }
        return present;
    }

    public int cues(int list) throws IndexOutOfBoundsException {
        needList(list);
        return desk.lists[list].count;
    }

    public boolean isFading(int list) throws IndexOutOfBoundsException {
        needList(list);
        return desk.lists[list].hasOpenFade(desk.time);
    }

    public int time() {
        return desk.time;
    }

    public long sum() {
        long sum = 0;
        for (int line = 0; line < LINES; line++) {
            sum += desk.lineValue(line);
        }
        return sum;
    }

    public float litShare() throws ArithmeticException {
        if (desk.lamps == 0) {
            throw new ArithmeticException("no lamps");
        }
        int lit = 0;
        for (int lamp = 0; lamp < desk.lamps; lamp++) {
            if (desk.shown(slotOf(lamp, LIGHT)) > 0.0f) {
                lit++;
            }
        }
        return (float) lit / (float) desk.lamps;
    }

    public double meanStored() throws ArithmeticException {
        int cues = 0;
        int stored = 0;
        for (int list = 0; list < LISTS; list++) {
            cues += desk.lists[list].count;
            stored += desk.lists[list].storedInAll();
        }
        if (cues == 0) {
            throw new ArithmeticException("no cues");
        }
        return (double) stored / (double) cues;
    }

    public boolean isSound() {
        for (int line = 0; line < LINES; line++) {
            if (desk.lineValue(line) != twin.lineValue(line)) {
                return false;
            }
        }
        for (int list = 0; list < LISTS; list++) {
            if (!desk.lists[list].tracksAsGoneThrough()) {
                return false;
            }
        }
        return true;
    }

    private int runEffect(int effect, int since) {
        twin.effects[effect].startedAt = since;
        desk.effects[effect].startedAt = since;
        return desk.runningEffects();
    }

    private void needLamp(int lamp) {
        if (lamp < 0 || lamp >= desk.lamps) {
            throw new IndexOutOfBoundsException("no such lamp");
        }
    }

    private void needAttribute(int attribute) {
        needRange(attribute, 0, ATTRIBUTES - 1);
    }

    private void needSlot(int lamp, int attribute) {
        needLamp(lamp);
        needAttribute(attribute);
    }

    private void needGroup(int group) {
        if (group < 0 || group >= desk.groupCount) {
            throw new NoSuchElementException("no such group");
        }
    }

    private void needPalette(int palette) {
        if (palette < 0 || palette >= desk.palettes.count) {
            throw new NoSuchElementException("no such palette");
        }
    }

    private void needEffect(int effect) {
        if (effect < 0 || effect >= desk.effectCount) {
            throw new NoSuchElementException("no such effect");
        }
    }

    private void needList(int list) {
        if (list < 0 || list >= LISTS) {
            throw new IndexOutOfBoundsException("no such list");
        }
    }

    private void needCue(int list, int cue) {
        needList(list);
        if (cue < 0 || cue >= desk.lists[list].count) {
            throw new IndexOutOfBoundsException("no such cue");
        }
    }

    private void needPresentCue(int list) {
        needList(list);
        if (desk.lists[list].present == NONE) {
            throw new IllegalStateException("no present cue");
        }
    }

    private int needEntry(int list, int cue, int lamp, int attribute) {
        needCue(list, cue);
        needSlot(lamp, attribute);
        int entry = desk.lists[list].entryOf(cue, slotOf(lamp, attribute));
        if (entry == NONE) {
            throw new NoSuchElementException("no entry is tracked");
        }
        return entry;
    }

    private static void needRange(int number, int least, int most) {
        if (number < least || number > most) {
            throw new IllegalArgumentException("out of range");
        }
    }

    private static int slotOf(int lamp, int attribute) {
        return lamp * ATTRIBUTES + attribute;
    }

    private static boolean isPalette(int entry) {
        return entry >= FIRST_PALETTE;
    }

    // The language has no Float.floatToIntBits. No value is below 0, so there is no sign to tell.
    private static int bitsOf(float value) {
        if (!(value > 0.0f)) {
            return 0;
        }
        double part = value;
        int exponent = 127;
        while (part >= 2.0 && exponent < 254) {
            part = part / 2.0;
            exponent++;
        }
        while (part < 1.0 && exponent > 1) {
            part = part * 2.0;
            exponent--;
        }
        // The part's leading one adds 1 to the exponent; a part still less than 1 is too small for one, and its exponent is 0.
        return ((exponent - 1) << 23) + (int) (part * 8388608.0);
    }

    /** At most one entry for each slot: what the programmer has, and what a cue stores. */
    private static final class Entries {
        final int[] rows = new int[SLOTS];
        int count;

        Entries() {
            for (int slot = 0; slot < SLOTS; slot++) {
                rows[slot] = NONE;
            }
        }

        boolean has(int slot) {
            return rows[slot] != NONE;
        }

        int put(int slot, int entry) {
            if (rows[slot] == NONE) {
                count++;
            }
            rows[slot] = entry;
            return count;
        }

        int drop(int slot) {
            if (rows[slot] != NONE) {
                count--;
            }
            rows[slot] = NONE;
            return count;
        }

        int empty() {
            int had = count;
            for (int slot = 0; slot < SLOTS; slot++) {
                rows[slot] = NONE;
            }
            count = 0;
            return had;
        }

        void copy(Entries other) {
            System.arraycopy(other.rows, 0, rows, 0, SLOTS);
            count = other.count;
        }
    }

    private static final class Palettes {
        final int[] attributes = new int[PALETTES];
        final int[] values = new int[PALETTES];
        int count;

        int mix(int attribute, int value) {
            attributes[count] = attribute;
            values[count] = value;
            count++;
            return count - 1;
        }

        int change(int palette, int value) {
            int before = values[palette];
            values[palette] = value;
            return before;
        }

        int numberOf(int entry) {
            return entry < FIRST_PALETTE ? entry : values[entry - FIRST_PALETTE];
        }
    }

    private static final class Group {
        final int[] lamps = new int[LAMPS];
        int count;

        int placeOf(int lamp) {
            for (int place = 0; place < count; place++) {
                if (lamps[place] == lamp) {
                    return place;
                }
            }
            return NONE;
        }

        int join(int lamp) {
            lamps[count] = lamp;
            count++;
            return count;
        }
    }

    private static final class Effect {
        int group;
        int attribute;
        char shape;
        int size;
        // Never 0, as wave divides by it.
        int period = LEAST_PERIOD;
        int spread;
        int startedAt = NONE;

        void describe(int itsGroup, int itsAttribute, char itsShape, int itsSize, int itsPeriod, int itsSpread) {
            group = itsGroup;
            attribute = itsAttribute;
            shape = itsShape;
            size = itsSize;
            period = itsPeriod;
            spread = itsSpread;
        }

        boolean runs() {
            return startedAt != NONE;
        }

        float wave(int place, int now) {
            int at = (now - startedAt + place * spread) % period;
            float s = (float) size;
            float q = (float) at;
            float r = (float) period;
            if (shape == 'w') {
                return s * (q / r);
            }
            if (shape == 't') {
                return 2 * at > period ? s * (2.0f - 2.0f * q / r) : s * (2.0f * q / r);
            }
            return 2 * at < period ? s : 0.0f;
        }
    }

    private static final class Cue {
        final Entries stored = new Entries();
        int delay;
        int fade;
        int follow = NONE;
        int link = NONE;
        int code = NONE;
        boolean asserts;

        int changeTimes(int newDelay, int newFade) {
            int before = delay + fade;
            delay = newDelay;
            fade = newFade;
            return before;
        }

        int changeFollow(int newFollow) {
            int before = follow;
            follow = newFollow;
            return before;
        }

        int changeLink(int newLink) {
            int before = link;
            link = newLink;
            return before;
        }

        int changeCode(int newCode) {
            int before = code;
            code = newCode;
            return before;
        }

        boolean changeAssert(boolean is) {
            boolean before = asserts;
            asserts = is;
            return before;
        }
    }

    private static final class CueList {
        final Cue[] cues = new Cue[CUES];
        int count;
        int present = NONE;
        int beganAt;
        int master = 100;
        int priority = 5;
        // The fades, one for each slot; its order tells which is later, and 0 that there is none.
        final float[] froms = new float[SLOTS];
        final int[] starts = new int[SLOTS];
        final int[] lengths = new int[SLOTS];
        final int[] orders = new int[SLOTS];

        CueList() {
            for (int cue = 0; cue < CUES; cue++) {
                cues[cue] = new Cue();
            }
        }

        int changeMaster(int newMaster) {
            int before = master;
            master = newMaster;
            return before;
        }

        int changePriority(int newPriority) {
            int before = priority;
            priority = newPriority;
            return before;
        }

        int sourceOf(int cue, int slot) {
            for (int at = cue; at >= 0; at--) {
                if (cues[at].stored.rows[slot] != NONE) {
                    return at;
                }
            }
            return NONE;
        }

        int entryOf(int cue, int slot) {
            int source = sourceOf(cue, slot);
            return source == NONE ? NONE : cues[source].stored.rows[slot];
        }

        int nextCue() {
            int next = present + 1;
            if (present != NONE && cues[present].link != NONE) {
                next = cues[present].link;
            }
            return next < count ? next : NONE;
        }

        int cueThatFollows(int now) {
            if (present == NONE || cues[present].follow == NONE) {
                return NONE;
            }
            return now - beganAt == cues[present].follow ? nextCue() : NONE;
        }

        int cueForCode(int code) {
            int best = NONE;
            for (int cue = 0; cue < count; cue++) {
                int its = cues[cue].code;
                if (its != NONE && its <= code && (best == NONE || its > cues[best].code)) {
                    best = cue;
                }
            }
            return best;
        }

        boolean hasFade(int slot) {
            return orders[slot] != 0;
        }

        boolean needsNewFade(int cue, int slot) {
            int source = sourceOf(cue, slot);
            return source == cue || cues[cue].asserts || sourceOf(present, slot) != source;
        }

        void startFade(int slot, int cue, float from, int now, int order) {
            froms[slot] = from;
            starts[slot] = now + cues[cue].delay;
            lengths[slot] = cues[cue].fade;
            orders[slot] = order;
        }

        float fadeValue(int slot, int now, Palettes palettes) {
            int passed = now - starts[slot];
            int source = sourceOf(present, slot);
            if (passed < 0 || source == NONE) {
                return froms[slot];
            }
            float goal = (float) palettes.numberOf(cues[source].stored.rows[slot]);
            if (slot % ATTRIBUTES == SHAPE || passed >= lengths[slot]) {
                return goal;
            }
            return froms[slot] + (goal - froms[slot]) * ((float) passed / (float) lengths[slot]);
        }

        float putOut(int slot, int now, Palettes palettes) {
            float value = fadeValue(slot, now, palettes);
            return slot % ATTRIBUTES == LIGHT ? value * ((float) master / 100.0f) : value;
        }

        boolean hasOpenFade(int now) {
            for (int slot = 0; slot < SLOTS; slot++) {
                boolean open = now < starts[slot] || now - starts[slot] < lengths[slot];
                if (hasFade(slot) && open) {
                    return true;
                }
            }
            return false;
        }

        int letGo() {
            int had = 0;
            for (int slot = 0; slot < SLOTS; slot++) {
                had += hasFade(slot) ? 1 : 0;
                orders[slot] = 0;
            }
            present = NONE;
            return had;
        }

        int storedInAll() {
            int stored = 0;
            for (int cue = 0; cue < count; cue++) {
                stored += cues[cue].stored.count;
            }
            return stored;
        }

        boolean tracksAsGoneThrough() {
            for (int slot = 0; slot < SLOTS; slot++) {
                int entry = NONE;
                for (int cue = 0; cue <= present; cue++) {
                    if (cues[cue].stored.has(slot)) {
                        entry = cues[cue].stored.rows[slot];
                    }
                }
                if (entry != entryOf(present, slot)) {
                    return false;
                }
            }
            return true;
        }
    }

    /** All that a desk knows, and its acts; what it is asked for is allowed already. */
    private static final class Desk {
        final int[] lines = new int[LAMPS];
        int lamps;
        final Group[] groups = new Group[GROUPS];
        int groupCount;
        final Palettes palettes = new Palettes();
        final Entries programmer = new Entries();
        final CueList[] lists = new CueList[LISTS];
        final Effect[] effects = new Effect[EFFECTS];
        int effectCount;
        int time;
        int beginnings;

        Desk() {
            for (int group = 0; group < GROUPS; group++) {
                groups[group] = new Group();
            }
            for (int list = 0; list < LISTS; list++) {
                lists[list] = new CueList();
            }
            for (int effect = 0; effect < EFFECTS; effect++) {
                effects[effect] = new Effect();
            }
        }

        int placeLamp() {
            lines[lamps] = NONE;
            lamps++;
            return lamps - 1;
        }

        boolean meetsAnotherLamp(int lamp, int line) {
            for (int other = 0; other < lamps; other++) {
                int apart = Math.abs(lines[other] - line);
                if (other != lamp && lines[other] != NONE && apart < ATTRIBUTES) {
                    return true;
                }
            }
            return false;
        }

        int moveLamp(int lamp, int line) {
            int before = lines[lamp];
            lines[lamp] = line;
            return before;
        }

        int formGroup() {
            groupCount++;
            return groupCount - 1;
        }

        int spreadOver(int group, int attribute, int first, int last) {
            int[] members = groups[group].lamps;
            int size = groups[group].count;
            for (int place = 0; place < size; place++) {
                int more = size < 2 ? 0 : place * (last - first) / (size - 1);
                programmer.put(slotOf(members[place], attribute), first + more);
            }
            return programmer.count;
        }

        Cue cueAt(int list, int cue) {
            return lists[list].cues[cue];
        }

        int storeCue(int list) {
            CueList its = lists[list];
            its.cues[its.count].stored.copy(programmer);
            programmer.empty();
            its.count++;
            return its.count - 1;
        }

        int advance(int list) {
            int next = lists[list].nextCue();
            if (next != NONE) {
                begin(list, next);
            }
            return next;
        }

        // The old cue stays the present one until all slots are gone through: the fades begin with what is ahead of it.
        int begin(int list, int cue) {
            CueList its = lists[list];
            beginnings++;
            int fresh = 0;
            for (int slot = 0; slot < SLOTS; slot++) {
                if (its.sourceOf(cue, slot) == NONE) {
                    its.orders[slot] = 0;
                } else if (its.needsNewFade(cue, slot)) {
                    float from = its.hasFade(slot) ? its.fadeValue(slot, time, palettes) : settled(slot);
                    its.startFade(slot, cue, from, time, beginnings);
                    fresh++;
                }
            }
            its.present = cue;
            its.beganAt = time;
            return fresh;
        }

        int updateList(int list) {
            CueList its = lists[list];
            for (int slot = 0; slot < SLOTS; slot++) {
                if (programmer.has(slot)) {
                    updateSlot(its, slot);
                }
            }
            return programmer.empty();
        }

        private void updateSlot(CueList its, int slot) {
            int entry = programmer.rows[slot];
            int source = its.sourceOf(its.present, slot);
            int keeper = source == NONE ? its.present : source;
            int old = its.cues[keeper].stored.rows[slot];
            if (isPalette(old) && !isPalette(entry)) {
                palettes.change(old - FIRST_PALETTE, entry);
            } else {
                its.cues[keeper].stored.put(slot, entry);
            }
        }

        int goOn(int steps) {
            for (int step = 0; step < steps; step++) {
                time++;
                for (int list = 0; list < LISTS; list++) {
                    int next = lists[list].cueThatFollows(time);
                    if (next != NONE) {
                        begin(list, next);
                    }
                }
            }
            return time;
        }

        int takeCode(int code) {
            int began = 0;
            for (int list = 0; list < LISTS; list++) {
                int cue = lists[list].cueForCode(code);
                if (cue != NONE && cue != lists[list].present) {
                    begin(list, cue);
                    began++;
                }
            }
            return began;
        }

        Effect nextEffect() {
            effectCount++;
            return effects[effectCount - 1];
        }

        int runningEffects() {
            int running = 0;
            for (int effect = 0; effect < effectCount; effect++) {
                running += effects[effect].runs() ? 1 : 0;
            }
            return running;
        }

        int decider(int slot) {
            if (programmer.has(slot)) {
                return PROGRAMMER;
            }
            int best = NONE;
            float bestClaim = 0.0f;
            for (int list = 0; list < LISTS; list++) {
                CueList its = lists[list];
                if (!its.hasFade(slot)) {
                    continue;
                }
                float claim = slot % ATTRIBUTES == LIGHT ? its.putOut(slot, time, palettes) : (float) its.orders[slot];
                int ahead = best == NONE ? 1 : its.priority - lists[best].priority;
                if (ahead > 0 || ahead == 0 && claim > bestClaim) {
                    best = list;
                    bestClaim = claim;
                }
            }
            return best;
        }

        // What is put out, but for effects.
        float settled(int slot) {
            int decider = decider(slot);
            if (decider == NONE) {
                return 0.0f;
            }
            if (decider == PROGRAMMER) {
                return (float) palettes.numberOf(programmer.rows[slot]);
            }
            return lists[decider].putOut(slot, time, palettes);
        }

        float shown(int slot) {
            float value = settled(slot);
            for (int number = 0; number < effectCount; number++) {
                Effect effect = effects[number];
                if (effect.runs() && effect.attribute == slot % ATTRIBUTES) {
                    int place = groups[effect.group].placeOf(slot / ATTRIBUTES);
                    value = place == NONE ? value : value + effect.wave(place, time);
                }
            }
            if (value < 0.0f) {
                return 0.0f;
            }
            return value > 255.0f ? 255.0f : value;
        }

        int lineValue(int line) {
            for (int lamp = 0; lamp < lamps; lamp++) {
                int attribute = line - lines[lamp];
                if (lines[lamp] != NONE && attribute >= 0 && attribute < ATTRIBUTES) {
                    return (int) shown(slotOf(lamp, attribute));
                }
            }
            return 0;
        }
    }
}
