import java.lang.reflect.InvocationTargetException;
import java.lang.reflect.Method;
import java.util.ArrayList;
import java.util.List;

/** A desk whose calls are told as texts, such as "patch 0 60", "setAssert 0 0 true" or "addEffect 0 1 w 9 2 0". */
final class Calls {
    private final Lampboard desk = new Lampboard();
    private int count = 0;

    Calls(List<String> first) {
        for (String call : first) {
            String answer = answer(call);
            Check.is(call + ", which makes the desk ready, answered " + answer, !answer.startsWith("throws"));
        }
    }

    static Method methodOf(String call) {
        String name = call.split(" ")[0];
        for (Method method : Lampboard.class.getMethods()) {
            if (method.getName().equals(name) && method.getDeclaringClass() == Lampboard.class) {
                return method;
            }
        }
        throw new IllegalArgumentException("no method " + name);
    }

    /** What the call answers; "throws" and the name of what it throws, if it does. */
    String answer(String call) {
        String[] words = call.split(" ");
        Method method = methodOf(call);
        Class<?>[] types = method.getParameterTypes();
        Object[] arguments = new Object[types.length];
        for (int a = 0; a < types.length; a++) {
            arguments[a] = argument(types[a], words[a + 1]);
        }
        count++;
        try {
            return String.valueOf(method.invoke(desk, arguments));
        } catch (InvocationTargetException e) {
            return "throws " + e.getCause().getClass().getSimpleName();
        } catch (IllegalAccessException e) {
            throw new IllegalStateException(call, e);
        }
    }

    private static Object argument(Class<?> type, String word) {
        if (type == char.class) {
            return word.charAt(0);
        }
        if (type == boolean.class) {
            return Boolean.valueOf(word);
        }
        return Integer.valueOf(word);
    }

    /** All that the desk can be brought to tell of its first lamps, lists and cues; it is another desk then. */
    List<String> tellAll() {
        List<String> told = new ArrayList<>();
        askAll(told);
        bringOut(told);
        Check.is("no desk has more than its 512 calls: " + count, count <= 512);
        return told;
    }

    private void tell(List<String> told, String call) {
        told.add(call + " -> " + answer(call));
    }

    private void askAll(List<String> told) {
        for (String question : new String[] {"time", "sum", "litShare", "meanStored", "isSound", "line 0", "line 11", "line 63"}) {
            tell(told, question);
        }
        for (int list = 0; list < 3; list++) {
            tell(told, "cueOf " + list);
            tell(told, "cues " + list);
            tell(told, "isFading " + list);
        }
        for (int slot = 0; slot < 12; slot++) {
            String place = " " + slot / 4 + " " + slot % 4;
            tell(told, "outputBits" + place);
            tell(told, "decides" + place);
            for (int list = 0; list < 3; list++) {
                tell(told, "valueIn " + list + place);
                tell(told, "tracked " + list + " 1" + place);
                tell(told, "source " + list + " 1" + place);
                tell(told, "paletteOf " + list + " 1" + place);
            }
        }
    }

    /** What no question tells is told by what acts answer and do. */
    private void bringOut(List<String> told) {
        for (int list = 0; list < 3; list++) {
            for (String act : new String[] {"setTimes %d 0 1 3", "setFollow %d 0 -1", "setLink %d 0 1", "setCode %d 0 7",
                "setAssert %d 0 false", "setMaster %d 60", "setPriority %d 4", "go %d", "update %d", "release %d", "go %d"}) {
                tell(told, String.format(act, list));
            }
        }
        for (String act : new String[] {"addLamp", "addGroup", "addPalette 1 40", "addEffect 0 1 w 50 3 1", "patch 0 40",
            "patch 1 50", "patch 2 60", "fan 0 2 0 200", "fan 1 1 0 200", "clear", "setPalette 0 3", "setPalette 1 33", "pass 2",
            "start 0", "start 1", "stop 1", "code 7", "pass 1", "set 0 0 9", "record 1", "isSound"}) {
            tell(told, act);
        }
        for (int slot = 0; slot < 12; slot++) {
            tell(told, "outputBits " + slot / 4 + " " + slot % 4);
        }
    }
}
