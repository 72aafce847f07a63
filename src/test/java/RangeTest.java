import java.util.ArrayList;
import java.util.Arrays;
import java.util.List;
import java.util.TreeSet;

/**
 * Each argument of each method at its edges: the last values that are taken, the first ones that are refused and the farthest,
 * two refused ones at once, and the desk behind a refused call.
 */
public final class RangeTest {
    // Each method with what its arguments are, and values of them that are taken.
    private static final String[] FACE = {
        "patch lamp=1 line=30", "addToGroup group=1 lamp=0", "addPalette attribute=1 value=100", "setPalette palette=1 value=100",
        "set lamp=1 attribute=1 value=100", "point lamp=1 palette=1", "fan group=0 attribute=1 value=100 value=200",
        "knockOut lamp=1 attribute=1", "record list=0", "setTimes list=0 cue=0 delay=1 fade=1", "setFollow list=0 cue=0 follow=1",
        "setLink list=0 cue=0 link=1", "setCode list=0 cue=0 code=1", "setAssert list=0 cue=0 flag=true", "setMaster list=0 master=1",
        "setPriority list=0 priority=1", "go list=0", "goTo list=0 cue=0", "release list=0", "update list=0", "pass steps=1",
        "code time=1", "addEffect group=0 attribute=1 shape=w size=1 period=2 spread=0", "start effect=0", "stop effect=0",
        "output lamp=1 attribute=1", "outputBits lamp=1 attribute=1", "line onLines=1", "decides lamp=1 attribute=1",
        "valueIn list=0 lamp=1 attribute=1", "tracked list=0 cue=0 lamp=1 attribute=1", "source list=0 cue=0 lamp=1 attribute=1",
        "paletteOf list=0 cue=0 lamp=1 attribute=1", "cueOf list=0", "cues list=0", "isFading list=0",
    };
    private static final String[] WITHOUT = {"addLamp", "addGroup", "clear", "time", "sum", "litShare", "meanStored", "isSound"};

    public static void main(String[] args) {
        allOfTheFace();
        for (String row : FACE) {
            String[] words = row.split(" ");
            for (int a = 1; a < words.length; a++) {
                takes(words, a);
                refuses(words, a);
                for (int b = a + 1; b < words.length; b++) {
                    refusesBoth(words, a, b);
                }
            }
        }
        Check.end();
    }

    private static void allOfTheFace() {
        TreeSet<String> due = new TreeSet<>();
        for (var method : Lampboard.class.getMethods()) {
            if (method.getDeclaringClass() == Lampboard.class) {
                due.add(method.getName());
            }
        }
        TreeSet<String> got = new TreeSet<>(Arrays.asList(WITHOUT));
        for (String row : FACE) {
            got.add(row.split(" ")[0]);
        }
        Check.is("each method is gone through", got.equals(due));
    }

    /** Three lamps, two groups, three palettes, two cues in each list, and three effects. */
    private static List<String> ready(String method) {
        List<String> calls = new ArrayList<>(List.of("addLamp", "addLamp", "addLamp", "patch 0 40", "patch 1 10", "patch 2 20",
            "addGroup", "addGroup", "addToGroup 0 2", "addToGroup 0 1", "addPalette 0 10", "addPalette 1 20", "addPalette 3 30"));
        for (int list = 0; list < 3; list++) {
            for (int slot = 0; slot < 12; slot++) {
                calls.add("set " + slot / 4 + " " + slot % 4 + " " + (20 * slot + list));
            }
            calls.addAll(List.of("point 1 0", "point 1 1", "point 1 2", "point 0 1", "point 2 1", "record " + list));
            calls.addAll(List.of("set 1 0 66", "set 2 2 77", "record " + list, "setTimes " + list + " 0 1 4", "goTo " + list + " 0"));
        }
        calls.addAll(List.of("set 0 1 5", "set 2 1 6", "set 1 1 7", "set 1 0 8", "set 1 3 9", "pass 2"));
        calls.addAll(List.of("addEffect 0 1 w 90 5 2", "addEffect 0 2 t 90 5 2", "addEffect 0 1 q 90 5 2"));
        if (method.equals("stop")) {
            calls.addAll(List.of("start 0", "start 1", "start 2"));
        }
        return calls;
    }

    private static String[] taken(String kind) {
        switch (kind) {
            case "lamp": case "list": case "palette": case "effect": return new String[] {"0", "2"};
            case "group": case "cue": return new String[] {"0", "1"};
            case "attribute": return new String[] {"0", "3"};
            case "value": return new String[] {"0", "255"};
            case "line": return new String[] {"-1", "0", "60"};
            case "onLines": return new String[] {"0", "63"};
            case "delay": case "priority": return new String[] {"0", "9"};
            case "fade": return new String[] {"0", "20"};
            case "follow": return new String[] {"-1", "1", "20"};
            case "link": return new String[] {"-1", "0", "11"};
            case "code": return new String[] {"-1", "0", "999"};
            case "time": return new String[] {"0", "999"};
            case "flag": return new String[] {"true", "false"};
            case "master": return new String[] {"0", "100"};
            case "steps": return new String[] {"1", "30"};
            case "shape": return new String[] {"w", "t", "q"};
            case "size": return new String[] {"-255", "0", "255"};
            case "period": return new String[] {"2", "20"};
            case "spread": return new String[] {"0", "19"};
            default: throw new IllegalStateException(kind);
        }
    }

    private static String[] refused(String kind) {
        switch (kind) {
            case "flag": return new String[0];
            case "shape": return new String[] {"v", "x", "s", "u", "p", "r", "W", "\0", "\uffff"};
            case "follow": return new String[] {"0", "-2", "21", "-2147483648", "2147483647"};
            default:
                String[] edges = taken(kind);
                int below = Integer.parseInt(edges[0]) - 1;
                int above = Integer.parseInt(edges[edges.length - 1]) + 1;
                return new String[] {"" + below, "" + above, "-2147483648", "2147483647"};
        }
    }

    private static String exceptionFor(String kind) {
        switch (kind) {
            case "lamp": case "list": case "cue": return "IndexOutOfBoundsException";
            case "group": case "palette": case "effect": return "NoSuchElementException";
            default: return "IllegalArgumentException";
        }
    }

    private static String kindOf(String word) {
        return word.split("=")[0];
    }

    private static String call(String[] words, int a, String valueOfA, int b, String valueOfB) {
        StringBuilder call = new StringBuilder(words[0]);
        for (int i = 1; i < words.length; i++) {
            String value = i == a ? valueOfA : i == b ? valueOfB : words[i].split("=")[1];
            call.append(' ').append(value);
        }
        return call.toString();
    }

    private static void takes(String[] words, int a) {
        for (String value : taken(kindOf(words[a]))) {
            String call = call(words, a, value, 0, "");
            String answer = new Calls(ready(words[0])).answer(call);
            Check.is(call + " is taken, and answered " + answer, !answer.startsWith("throws"));
        }
    }

    private static void refuses(String[] words, int a) {
        List<String> untouched = new Calls(ready(words[0])).tellAll();
        String due = "throws " + exceptionFor(kindOf(words[a]));
        for (String value : refused(kindOf(words[a]))) {
            String call = call(words, a, value, 0, "");
            Calls desk = new Calls(ready(words[0]));
            String answer = desk.answer(call);
            Check.is(call + " answered " + answer + ", due is " + due, answer.equals(due));
            Check.is("a refused " + call + " changes nothing", desk.tellAll().equals(untouched));
        }
    }

    private static void refusesBoth(String[] words, int a, int b) {
        for (String valueOfA : refused(kindOf(words[a]))) {
            for (String valueOfB : refused(kindOf(words[b]))) {
                String call = call(words, a, valueOfA, b, valueOfB);
                String due = firstListed(words[0], exceptionFor(kindOf(words[a])), exceptionFor(kindOf(words[b])));
                String answer = new Calls(ready(words[0])).answer(call);
                Check.is(call + " answered " + answer + ", due is " + due, answer.equals("throws " + due));
            }
        }
    }

    /** FaceTest sees to it that the methods list their exceptions as the document does. */
    private static String firstListed(String method, String one, String other) {
        for (Class<?> listed : Calls.methodOf(method).getExceptionTypes()) {
            if (listed.getSimpleName().equals(one) || listed.getSimpleName().equals(other)) {
                return listed.getSimpleName();
            }
        }
        throw new IllegalStateException(method + " lists neither");
    }
}
