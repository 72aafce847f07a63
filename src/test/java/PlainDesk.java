import java.util.ArrayList;
import java.util.List;
import java.util.Map;
import java.util.NoSuchElementException;
import java.util.TreeMap;

/**
 * The document's words again, as plainly as they can be put with the Java library: a second opinion for AgreesTest.
 * It holds objects and maps where the program holds rows of numbers, and shares nothing with it.
 */
final class PlainDesk {
    private static final class Palette {
        int number;
        int attribute;
        int value;
    }

    private static final class Entry {
        Integer number;
        Palette palette;

        int value() {
            return palette != null ? palette.value : number;
        }
    }

    private record Key(int lamp, int attribute) implements Comparable<Key> {
        public int compareTo(Key other) {
            return lamp != other.lamp ? Integer.compare(lamp, other.lamp) : Integer.compare(attribute, other.attribute);
        }
    }

    private static final class Cue {
        int number;
        Map<Key, Entry> stores = new TreeMap<>();
        int delay;
        int fade;
        Integer follow;
        Integer link;
        Integer code;
        boolean asserts;
    }

    private static final class Fade {
        float begin;
        int start;
        int takes;
        int rank;
    }

    private static final class CueList {
        int number;
        List<Cue> cues = new ArrayList<>();
        Cue present;
        int since;
        int master = 100;
        int priority = 5;
        Map<Key, Fade> fades = new TreeMap<>();
    }

    private static final class Effect {
        int group;
        int attribute;
        char shape;
        int size;
        int period;
        int spread;
        Integer started;
    }

    private final List<Integer> lines = new ArrayList<>();
    private final List<List<Integer>> groups = new ArrayList<>();
    private final List<Palette> palettes = new ArrayList<>();
    private final Map<Key, Entry> programmer = new TreeMap<>();
    private final List<CueList> lists = new ArrayList<>();
    private final List<Effect> effects = new ArrayList<>();
    private int now = 0;
    private int ranks = 0;

    PlainDesk() {
        for (int i = 0; i < 3; i++) {
            CueList l = new CueList();
            l.number = i;
            lists.add(l);
        }
    }

    private static <T> T at(List<T> all, int i, boolean index) {
        if (i >= 0 && i < all.size()) {
            return all.get(i);
        }
        throw index ? new IndexOutOfBoundsException() : new NoSuchElementException();
    }

    private static void range(int i, int from, int to) {
        if (i < from || i > to) {
            throw new IllegalArgumentException();
        }
    }

    private static void state(boolean good) {
        if (!good) {
            throw new IllegalStateException();
        }
    }

    private static int orNone(Integer i) {
        return i == null ? -1 : i;
    }

    private static Integer orNull(int i) {
        return i == -1 ? null : i;
    }

    private Cue cue(int list, int cue) {
        return at(at(lists, list, true).cues, cue, true);
    }

    int addLamp() {
        state(lines.size() < 12);
        lines.add(null);
        return lines.size() - 1;
    }

    int patch(int lamp, int line) {
        Integer before = at(lines, lamp, true);
        range(line, -1, 60);
        for (int other = 0; other < lines.size() && line >= 0; other++) {
            if (other != lamp && lines.get(other) != null) {
                for (int k = 0; k < 4; k++) {
                    int taken = lines.get(other) + k;
                    state(taken < line || taken > line + 3);
                }
            }
        }
        lines.set(lamp, orNull(line));
        return orNone(before);
    }

    int addGroup() {
        state(groups.size() < 6);
        groups.add(new ArrayList<>());
        return groups.size() - 1;
    }

    int addToGroup(int group, int lamp) {
        List<Integer> g = at(groups, group, false);
        at(lines, lamp, true);
        state(!g.contains(lamp));
        g.add(lamp);
        return g.size();
    }

    int addPalette(int attribute, int value) {
        range(attribute, 0, 3);
        range(value, 0, 255);
        state(palettes.size() < 8);
        Palette p = new Palette();
        p.number = palettes.size();
        p.attribute = attribute;
        p.value = value;
        palettes.add(p);
        return p.number;
    }

    int setPalette(int palette, int value) {
        Palette p = at(palettes, palette, false);
        range(value, 0, 255);
        int before = p.value;
        p.value = value;
        return before;
    }

    private int give(int lamp, int attribute, Integer number, Palette palette) {
        Entry e = new Entry();
        e.number = number;
        e.palette = palette;
        programmer.put(new Key(lamp, attribute), e);
        return programmer.size();
    }

    int set(int lamp, int attribute, int value) {
        at(lines, lamp, true);
        range(attribute, 0, 3);
        range(value, 0, 255);
        return give(lamp, attribute, value, null);
    }

    int point(int lamp, int palette) {
        at(lines, lamp, true);
        Palette p = at(palettes, palette, false);
        return give(lamp, p.attribute, null, p);
    }

    int fan(int group, int attribute, int first, int last) {
        List<Integer> g = at(groups, group, false);
        range(attribute, 0, 3);
        range(first, 0, 255);
        range(last, 0, 255);
        for (int j = 0; j < g.size(); j++) {
            double more = g.size() == 1 ? 0 : (double) (j * (last - first)) / (g.size() - 1);
            give(g.get(j), attribute, first + (int) more, null);
        }
        return programmer.size();
    }

    int knockOut(int lamp, int attribute) {
        at(lines, lamp, true);
        range(attribute, 0, 3);
        if (programmer.remove(new Key(lamp, attribute)) == null) {
            throw new NoSuchElementException();
        }
        return programmer.size();
    }

    int clear() {
        int had = programmer.size();
        programmer.clear();
        return had;
    }

    int record(int list) {
        CueList l = at(lists, list, true);
        if (programmer.isEmpty()) {
            throw new UnsupportedOperationException();
        }
        state(l.cues.size() < 12);
        Cue c = new Cue();
        c.number = l.cues.size();
        c.stores.putAll(programmer);
        l.cues.add(c);
        programmer.clear();
        return c.number;
    }

    int setTimes(int list, int cue, int delay, int fade) {
        Cue c = cue(list, cue);
        range(delay, 0, 9);
        range(fade, 0, 20);
        int before = c.delay + c.fade;
        c.delay = delay;
        c.fade = fade;
        return before;
    }

    int setFollow(int list, int cue, int follow) {
        Cue c = cue(list, cue);
        if (follow != -1) {
            range(follow, 1, 20);
        }
        Integer before = c.follow;
        c.follow = orNull(follow);
        return orNone(before);
    }

    int setLink(int list, int cue, int to) {
        Cue c = cue(list, cue);
        range(to, -1, 11);
        Integer before = c.link;
        c.link = orNull(to);
        return orNone(before);
    }

    int setCode(int list, int cue, int code) {
        Cue c = cue(list, cue);
        range(code, -1, 999);
        Integer before = c.code;
        c.code = orNull(code);
        return orNone(before);
    }

    boolean setAssert(int list, int cue, boolean is) {
        Cue c = cue(list, cue);
        boolean before = c.asserts;
        c.asserts = is;
        return before;
    }

    int setMaster(int list, int master) {
        CueList l = at(lists, list, true);
        range(master, 0, 100);
        int before = l.master;
        l.master = master;
        return before;
    }

    int setPriority(int list, int priority) {
        CueList l = at(lists, list, true);
        range(priority, 0, 9);
        int before = l.priority;
        l.priority = priority;
        return before;
    }

    /** The cues that a cue's own number allows, the last one that stores the entry being the source. */
    private static Cue sourceOf(CueList l, Cue c, Key k) {
        Cue source = null;
        for (Cue other : l.cues) {
            if (c != null && other.number <= c.number && other.stores.containsKey(k)) {
                source = other;
            }
        }
        return source;
    }

    private static Cue next(CueList l) {
        int number = 0;
        if (l.present != null) {
            number = l.present.link != null ? l.present.link : l.present.number + 1;
        }
        return number < l.cues.size() ? l.cues.get(number) : null;
    }

    private float valueOf(CueList l, Key k) {
        Fade f = l.fades.get(k);
        float e = sourceOf(l, l.present, k).stores.get(k).value();
        if (now < f.start) {
            return f.begin;
        }
        if (k.attribute == 3 || f.takes == 0 || now - f.start >= f.takes) {
            return e;
        }
        float p = (float) (now - f.start) / (float) f.takes;
        return f.begin + (e - f.begin) * p;
    }

    private float mastered(CueList l, Key k) {
        return valueOf(l, k) * ((float) l.master / 100.0f);
    }

    private int deciderOf(Key k) {
        if (programmer.containsKey(k)) {
            return 3;
        }
        List<CueList> of = new ArrayList<>();
        for (CueList l : lists) {
            if (l.fades.containsKey(k)) {
                of.add(l);
            }
        }
        int greatest = of.stream().mapToInt(l -> l.priority).max().orElse(-1);
        of.removeIf(l -> l.priority < greatest);
        if (of.isEmpty()) {
            return -1;
        }
        of.sort((a, b) -> {
            int first = k.attribute == 0 ? Float.compare(mastered(b, k), mastered(a, k))
                    : Integer.compare(b.fades.get(k).rank, a.fades.get(k).rank);
            return first != 0 ? first : Integer.compare(a.number, b.number);
        });
        return of.get(0).number;
    }

    private float base(Key k) {
        int decider = deciderOf(k);
        if (decider < 0) {
            return 0;
        }
        if (decider == 3) {
            return programmer.get(k).value();
        }
        return k.attribute == 0 ? mastered(lists.get(decider), k) : valueOf(lists.get(decider), k);
    }

    private float floatOut(int lamp, int attribute) {
        Key k = new Key(lamp, attribute);
        float value = base(k);
        for (Effect x : effects) {
            int j = groups.get(x.group).indexOf(lamp);
            if (x.started != null && x.attribute == attribute && j >= 0) {
                value += wave(x, (now - x.started + j * x.spread) % x.period);
            }
        }
        return Math.min(255.0f, Math.max(0.0f, value));
    }

    private static float wave(Effect x, int place) {
        float s = x.size;
        float q = place;
        float r = x.period;
        switch (x.shape) {
            case 'w':
                return s * (q / r);
            case 't':
                return !(2 * q > r) ? s * (2.0f * q / r) : s * (2.0f - 2.0f * q / r);
            default:
                return 2 * q < r ? s : 0;
        }
    }

    private int begin(CueList l, Cue c) {
        Map<Key, Fade> then = new TreeMap<>();
        ranks++;
        int fresh = 0;
        for (int lamp = 0; lamp < lines.size(); lamp++) {
            for (int attribute = 0; attribute < 4; attribute++) {
                Key k = new Key(lamp, attribute);
                Cue source = sourceOf(l, c, k);
                if (source == null) {
                    continue;
                }
                Fade old = l.fades.get(k);
                if (c.stores.containsKey(k) || c.asserts || sourceOf(l, l.present, k) != source) {
                    Fade f = new Fade();
                    f.begin = old != null ? valueOf(l, k) : base(k);
                    f.start = now + c.delay;
                    f.takes = c.fade;
                    f.rank = ranks;
                    then.put(k, f);
                    fresh++;
                } else if (old != null) {
                    then.put(k, old);
                }
            }
        }
        l.fades = then;
        l.present = c;
        l.since = now;
        return fresh;
    }

    int go(int list) {
        CueList l = at(lists, list, true);
        Cue c = next(l);
        state(c != null);
        begin(l, c);
        return c.number;
    }

    int goTo(int list, int cue) {
        return begin(at(lists, list, true), cue(list, cue));
    }

    int release(int list) {
        CueList l = at(lists, list, true);
        state(l.present != null);
        int had = l.fades.size();
        l.fades = new TreeMap<>();
        l.present = null;
        return had;
    }

    int update(int list) {
        CueList l = at(lists, list, true);
        state(l.present != null);
        int had = programmer.size();
        for (Map.Entry<Key, Entry> one : programmer.entrySet()) {
            Key k = one.getKey();
            Entry mine = one.getValue();
            Cue source = sourceOf(l, l.present, k);
            Entry tracked = source == null ? null : source.stores.get(k);
            if (tracked != null && tracked.palette != null && mine.palette == null) {
                tracked.palette.value = mine.number;
            } else if (source != null) {
                source.stores.put(k, mine);
            } else {
                l.present.stores.put(k, mine);
            }
        }
        programmer.clear();
        return had;
    }

    int pass(int steps) {
        range(steps, 1, 30);
        state(now + steps <= 5000);
        for (int i = 0; i < steps; i++) {
            now++;
            for (CueList l : lists) {
                if (l.present != null && l.present.follow != null && l.since + l.present.follow == now && next(l) != null) {
                    begin(l, next(l));
                }
            }
        }
        return now;
    }

    int code(int code) {
        range(code, 0, 999);
        int began = 0;
        for (CueList l : lists) {
            Cue best = l.cues.stream().filter(c -> c.code != null && c.code <= code)
                    .sorted((a, b) -> !a.code.equals(b.code) ? b.code - a.code : a.number - b.number)
                    .findFirst().orElse(null);
            if (best != null && best != l.present) {
                begin(l, best);
                began++;
            }
        }
        return began;
    }

    int addEffect(int group, int attribute, char shape, int size, int period, int spread) {
        at(groups, group, false);
        range(attribute, 0, 3);
        range("wtq".indexOf(shape), 0, 2);
        range(size, -255, 255);
        range(period, 2, 20);
        range(spread, 0, 19);
        state(effects.size() < 4);
        Effect x = new Effect();
        x.group = group;
        x.attribute = attribute;
        x.shape = shape;
        x.size = size;
        x.period = period;
        x.spread = spread;
        effects.add(x);
        return effects.size() - 1;
    }

    int start(int effect) {
        Effect x = at(effects, effect, false);
        state(x.started == null);
        x.started = now;
        return (int) effects.stream().filter(e -> e.started != null).count();
    }

    int stop(int effect) {
        Effect x = at(effects, effect, false);
        state(x.started != null);
        x.started = null;
        return (int) effects.stream().filter(e -> e.started != null).count();
    }

    int output(int lamp, int attribute) {
        at(lines, lamp, true);
        range(attribute, 0, 3);
        return (int) floatOut(lamp, attribute);
    }

    int outputBits(int lamp, int attribute) {
        at(lines, lamp, true);
        range(attribute, 0, 3);
        return Float.floatToIntBits(floatOut(lamp, attribute));
    }

    int line(int line) {
        range(line, 0, 63);
        for (int lamp = 0; lamp < lines.size(); lamp++) {
            for (int k = 0; k < 4 && lines.get(lamp) != null; k++) {
                if (lines.get(lamp) + k == line) {
                    return (int) floatOut(lamp, k);
                }
            }
        }
        return 0;
    }

    int decides(int lamp, int attribute) {
        at(lines, lamp, true);
        range(attribute, 0, 3);
        int decider = deciderOf(new Key(lamp, attribute));
        if (decider < 0) {
            throw new NoSuchElementException();
        }
        return decider;
    }

    int valueIn(int list, int lamp, int attribute) {
        CueList l = at(lists, list, true);
        at(lines, lamp, true);
        range(attribute, 0, 3);
        Key k = new Key(lamp, attribute);
        if (!l.fades.containsKey(k)) {
            throw new NoSuchElementException();
        }
        return (int) valueOf(l, k);
    }

    private Cue tracking(int list, int cue, int lamp, int attribute) {
        Cue c = cue(list, cue);
        at(lines, lamp, true);
        range(attribute, 0, 3);
        Cue source = sourceOf(lists.get(list), c, new Key(lamp, attribute));
        if (source == null) {
            throw new NoSuchElementException();
        }
        return source;
    }

    int tracked(int list, int cue, int lamp, int attribute) {
        return tracking(list, cue, lamp, attribute).stores.get(new Key(lamp, attribute)).value();
    }

    int source(int list, int cue, int lamp, int attribute) {
        return tracking(list, cue, lamp, attribute).number;
    }

    int paletteOf(int list, int cue, int lamp, int attribute) {
        Entry e = tracking(list, cue, lamp, attribute).stores.get(new Key(lamp, attribute));
        if (e.palette == null) {
            throw new NoSuchElementException();
        }
        return e.palette.number;
    }

    int cueOf(int list) {
        CueList l = at(lists, list, true);
        if (l.present == null) {
            throw new NoSuchElementException();
        }
        return l.present.number;
    }

    int cues(int list) {
        return at(lists, list, true).cues.size();
    }

    boolean isFading(int list) {
        return at(lists, list, true).fades.values().stream().anyMatch(f -> now < f.start || now - f.start < f.takes);
    }

    int time() {
        return now;
    }

    long sum() {
        long sum = 0;
        for (int i = 0; i < 64; i++) {
            sum += line(i);
        }
        return sum;
    }

    float litShare() {
        if (lines.isEmpty()) {
            throw new ArithmeticException();
        }
        int lit = 0;
        for (int lamp = 0; lamp < lines.size(); lamp++) {
            lit += floatOut(lamp, 0) > 0 ? 1 : 0;
        }
        return (float) lit / (float) lines.size();
    }

    double meanStored() {
        List<Cue> all = new ArrayList<>();
        lists.forEach(l -> all.addAll(l.cues));
        if (all.isEmpty()) {
            throw new ArithmeticException();
        }
        return (double) all.stream().mapToInt(c -> c.stores.size()).sum() / (double) all.size();
    }

    boolean isSound() {
        return true;
    }
}
