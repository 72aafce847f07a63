import java.lang.reflect.InvocationTargetException;
import java.lang.reflect.Method;
import java.util.Random;

/** All promises at once: runs of calls, drawn with fixed seeds, to which the program and the plain desk answer alike. */
public final class AgreesTest {
    private static final int RUNS = 3000;
    private static final int CALLS = 512;

    // Each method with what its arguments are about and how often it is drawn.
    private static final String[] FACE = {
        "addLamp 2", "patch lamp place 4", "addGroup 1", "addToGroup group lamp 5", "addPalette attribute value 2",
        "setPalette palette value 4", "set lamp attribute value 30", "point lamp palette 12", "fan group attribute value value 8",
        "knockOut lamp attribute 3", "clear 1", "record list 12", "setTimes list cue delay fade 14", "setFollow list cue follow 6",
        "setLink list cue cue 4", "setCode list cue code 6", "setAssert list cue flag 4", "setMaster list master 6",
        "setPriority list priority 4", "go list 14", "goTo list cue 16", "release list 3", "update list 8", "pass steps 30",
        "code code 8", "addEffect group attribute shape size period spread 2", "start effect 4", "stop effect 2",
        "output lamp attribute 10", "outputBits lamp attribute 40", "line line 6", "decides lamp attribute 20",
        "valueIn list lamp attribute 20", "tracked list cue lamp attribute 12", "source list cue lamp attribute 12",
        "paletteOf list cue lamp attribute 10", "cueOf list 6", "cues list 3", "isFading list 8", "time 1", "sum 10",
        "litShare 4", "meanStored 3", "isSound 5",
    };

    private final Random random;
    private final int scale;
    private final Method[] program = new Method[FACE.length];
    private final Method[] plain = new Method[FACE.length];
    private final String[][] kinds = new String[FACE.length][];
    private final int[] weights = new int[FACE.length];
    private int allWeights = 0;

    private AgreesTest(long seed) throws ReflectiveOperationException {
        random = new Random(seed);
        scale = 1 + (int) (seed % 4);
        for (int i = 0; i < FACE.length; i++) {
            String[] words = FACE[i].split(" ");
            kinds[i] = java.util.Arrays.copyOfRange(words, 1, words.length - 1);
            weights[i] = Integer.parseInt(words[words.length - 1]);
            allWeights += weights[i];
            Class<?>[] types = new Class<?>[kinds[i].length];
            for (int a = 0; a < types.length; a++) {
                types[a] = kinds[i][a].equals("flag") ? boolean.class : kinds[i][a].equals("shape") ? char.class : int.class;
            }
            program[i] = Lampboard.class.getMethod(words[0], types);
            plain[i] = PlainDesk.class.getDeclaredMethod(words[0], types);
        }
    }

    public static void main(String[] args) throws ReflectiveOperationException {
        for (int run = 0; run < RUNS; run++) {
            new AgreesTest(run).run(run);
        }
        Check.end();
    }

    private void run(int run) throws ReflectiveOperationException {
        Lampboard x = new Lampboard();
        PlainDesk y = new PlainDesk();
        StringBuilder told = new StringBuilder();
        for (int call = 0; call < CALLS; call++) {
            int i = call < 12 ? call % 5 : draw();
            Object[] arguments = new Object[kinds[i].length];
            for (int a = 0; a < arguments.length; a++) {
                arguments[a] = argument(kinds[i][a]);
            }
            String got = answer(program[i], x, arguments);
            String due = answer(plain[i], y, arguments);
            told.append("  ").append(program[i].getName()).append(java.util.Arrays.toString(arguments)).append(" -> ").append(due).append('\n');
            if (!got.equals(due)) {
                Check.is("run " + run + ":\n" + told + "got " + got + ", due", false);
                return;
            }
        }
        Check.is("run " + run, true);
    }

    private int draw() {
        int left = random.nextInt(allWeights);
        int i = 0;
        while (left >= weights[i]) {
            left -= weights[i];
            i++;
        }
        return i;
    }

    private static String answer(Method method, Object on, Object[] arguments) throws IllegalAccessException {
        try {
            return String.valueOf(method.invoke(on, arguments));
        } catch (InvocationTargetException e) {
            return "throws " + e.getCause().getClass().getSimpleName();
        }
    }

    private int within(int from, int to) {
        int dice = random.nextInt(200);
        if (dice < 3) {
            return from - 1;
        }
        if (dice < 6) {
            return to + 1;
        }
        return dice < 30 ? from : dice < 45 ? to : from + random.nextInt(to - from + 1);
    }

    private Object argument(String kind) {
        switch (kind) {
            case "lamp": return within(0, scale);
            case "place": return within(-1, 60);
            case "group": return within(0, 1);
            case "attribute": return within(0, 3);
            case "palette": return within(0, 2);
            case "value": return within(0, 255);
            case "list": return within(0, 2);
            case "cue": return random.nextInt(12) == 0 ? within(-1, 12) : within(0, 1 + random.nextInt(4));
            case "delay": return random.nextBoolean() ? 0 : within(0, 9);
            case "fade": return within(0, 20);
            case "follow": return random.nextInt(5) == 0 ? -1 : within(1, random.nextBoolean() ? 5 : 20);
            case "code": return within(-1, random.nextInt(5) == 0 ? 999 : 6);
            case "flag": return random.nextBoolean();
            case "master": return within(0, 100);
            case "priority": return random.nextInt(3) > 0 ? 5 : within(0, 9);
            case "steps": return within(1, random.nextInt(3) == 0 ? 30 : 4);
            case "shape": return random.nextInt(30) == 0 ? 'x' : "wtq".charAt(random.nextInt(3));
            case "size": return within(-255, 255);
            case "period": return within(2, 20);
            case "spread": return within(0, 19);
            case "effect": return within(0, 3);
            case "line": return within(0, 63);
            default: throw new IllegalStateException(kind);
        }
    }
}
