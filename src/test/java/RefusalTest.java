import java.util.ArrayList;
import java.util.Collections;
import java.util.List;

/**
 * Each act and question that is refused for what the desk is: the last one that is taken, the first one that is refused, the desk
 * behind it, and which exception is thrown when an argument is refused, too.
 */
public final class RefusalTest {
    private static final String STATE = "IllegalStateException";
    private static final String NONE = "NoSuchElementException";

    public static void main(String[] args) {
        lampsAndLines();
        groupsAndPalettes();
        programmer();
        recording();
        listsThatBegin();
        listsWithoutAPresentCue();
        time();
        effects();
        questions();
        sharesOfNothing();
        Check.end();
    }

    private static List<String> calls(String... calls) {
        return new ArrayList<>(List.of(calls));
    }

    private static List<String> and(List<String> calls, String... more) {
        List<String> all = new ArrayList<>(calls);
        all.addAll(List.of(more));
        return all;
    }

    private static List<String> times(int count, String call) {
        return new ArrayList<>(Collections.nCopies(count, call));
    }

    private static void answers(List<String> ready, String call, String due) {
        String answer = new Calls(ready).answer(call);
        Check.is(call + " answered " + answer + ", due is " + due, answer.equals(due));
    }

    private static void refuses(List<String> ready, String call, String exception) {
        Calls desk = new Calls(ready);
        String answer = desk.answer(call);
        Check.is(call + " answered " + answer + ", due is throws " + exception, answer.equals("throws " + exception));
        Check.is("a refused " + call + " changes nothing", desk.tellAll().equals(new Calls(ready).tellAll()));
    }

    private static void lampsAndLines() {
        answers(times(11, "addLamp"), "addLamp", "11");
        refuses(times(12, "addLamp"), "addLamp", STATE);
        List<String> two = calls("addLamp", "addLamp", "addLamp", "patch 1 20", "set 0 0 5", "set 0 3 6", "set 1 1 7", "patch 0 60");
        answers(two, "patch 0 16", "60");
        answers(two, "patch 0 24", "60");
        for (int line = 17; line <= 23; line++) {
            refuses(two, "patch 0 " + line, STATE);
            refuses(two, "patch 3 " + line, "IndexOutOfBoundsException");
        }
        answers(two, "patch 1 60", "throws " + STATE);
        answers(two, "patch 1 57", "throws " + STATE);
        answers(two, "patch 1 56", "20");
        answers(and(two, "patch 0 -1"), "patch 1 60", "20");
        answers(two, "patch 2 0", "-1");
        refuses(two, "patch 1 61", "IllegalArgumentException");
    }

    private static void groupsAndPalettes() {
        answers(times(5, "addGroup"), "addGroup", "5");
        refuses(times(6, "addGroup"), "addGroup", STATE);
        List<String> group = calls("addLamp", "addLamp", "addGroup", "addGroup", "addToGroup 0 1");
        answers(group, "addToGroup 0 0", "2");
        answers(group, "addToGroup 1 1", "1");
        refuses(group, "addToGroup 0 1", STATE);
        refuses(group, "addToGroup 2 2", NONE);
        refuses(group, "addToGroup 0 2", "IndexOutOfBoundsException");
        answers(times(7, "addPalette 0 9"), "addPalette 3 255", "7");
        refuses(times(8, "addPalette 0 9"), "addPalette 3 255", STATE);
        refuses(times(8, "addPalette 0 9"), "addPalette 4 0", "IllegalArgumentException");
        refuses(times(8, "addPalette 0 9"), "addPalette 0 256", "IllegalArgumentException");
    }

    private static void programmer() {
        List<String> one = calls("addLamp", "addLamp", "set 0 1 9");
        answers(one, "knockOut 0 1", "0");
        refuses(one, "knockOut 0 0", NONE);
        refuses(one, "knockOut 1 1", NONE);
        refuses(and(one, "knockOut 0 1"), "knockOut 0 1", NONE);
        refuses(and(one, "clear"), "knockOut 0 1", NONE);
        refuses(and(one, "record 0"), "knockOut 0 1", NONE);
        refuses(and(one, "record 0", "go 0"), "knockOut 0 1", NONE);
        refuses(and(one, "record 0", "go 0", "set 0 1 8", "update 0"), "knockOut 0 1", NONE);
        refuses(one, "point 0 0", NONE);
        refuses(one, "point 2 0", "IndexOutOfBoundsException");
    }

    private static List<String> cues(int list, int count) {
        List<String> calls = calls("addLamp");
        for (int cue = 0; cue < count; cue++) {
            calls.addAll(List.of("set 0 1 " + cue, "record " + list));
        }
        return calls;
    }

    private static void recording() {
        for (int list = 0; list < 3; list++) {
            String record = "record " + list;
            answers(and(cues(list, 11), "set 0 0 1"), record, "11");
            refuses(and(cues(list, 12), "set 0 0 1"), record, STATE);
            refuses(cues(list, 12), record, "UnsupportedOperationException");
            refuses(cues(list, 0), record, "UnsupportedOperationException");
            answers(and(cues(list, 12), "set 0 0 1"), "record " + (list + 1) % 3, "0");
        }
        refuses(and(cues(0, 1), "set 0 0 1", "knockOut 0 0"), "record 0", "UnsupportedOperationException");
        refuses(and(cues(0, 1), "set 0 0 1", "clear"), "record 0", "UnsupportedOperationException");
        refuses(cues(0, 12), "record 3", "IndexOutOfBoundsException");
    }

    private static void listsThatBegin() {
        for (int list = 0; list < 3; list++) {
            String go = "go " + list;
            refuses(cues(list, 0), go, STATE);
            refuses(cues((list + 1) % 3, 2), go, STATE);
            answers(cues(list, 1), go, "0");
            refuses(and(cues(list, 1), go), go, STATE);
            answers(and(cues(list, 12), "goTo " + list + " 10"), go, "11");
            refuses(and(cues(list, 12), "goTo " + list + " 11"), go, STATE);
            answers(and(cues(list, 3), go, "setLink " + list + " 0 2"), go, "2");
            refuses(and(cues(list, 3), go, "setLink " + list + " 0 3"), go, STATE);
            refuses(and(cues(list, 3), go, "setLink " + list + " 0 11"), go, STATE);
        }
        refuses(cues(0, 1), "goTo 0 1", "IndexOutOfBoundsException");
        refuses(cues(0, 0), "goTo 0 0", "IndexOutOfBoundsException");
    }

    private static void listsWithoutAPresentCue() {
        for (int list = 0; list < 3; list++) {
            List<String> none = and(cues(list, 2), "set 0 2 9");
            List<String> other = and(none, "record " + (list + 1) % 3, "go " + (list + 1) % 3, "set 0 0 8");
            for (String act : new String[] {"release " + list, "update " + list}) {
                refuses(none, act, STATE);
                refuses(other, act, STATE);
                answers(and(none, "go " + list), act, "1");
                refuses(and(none, "go " + list, "release " + list), act, STATE);
            }
            refuses(none, "cueOf " + list, NONE);
            refuses(other, "cueOf " + list, NONE);
            refuses(and(none, "go " + list, "release " + list), "cueOf " + list, NONE);
        }
    }

    private static void time() {
        List<String> late = and(cues(0, 3), "setFollow 0 0 1", "go 0", "setFollow 0 1 20");
        late.addAll(times(166, "pass 30"));
        answers(late, "pass 20", "5000");
        refuses(late, "pass 21", STATE);
        refuses(late, "pass 30", STATE);
        refuses(late, "pass 31", "IllegalArgumentException");
        refuses(and(late, "pass 20"), "pass 1", STATE);
        refuses(and(late, "pass 20"), "pass 0", "IllegalArgumentException");
        answers(and(late, "pass 20"), "time", "5000");
        answers(and(late, "pass 19"), "pass 1", "5000");
    }

    private static void effects() {
        List<String> three = calls("addLamp", "addGroup", "addToGroup 0 0");
        three.addAll(times(3, "addEffect 0 1 q 20 4 1"));
        List<String> four = and(three, "addEffect 0 1 w 30 4 1");
        answers(three, "addEffect 0 0 t 1 2 0", "3");
        refuses(four, "addEffect 0 0 t 1 2 0", STATE);
        for (String bad : new String[] {"0 4 t 1 2 0", "0 0 x 1 2 0", "0 0 t 256 2 0", "0 0 t 1 1 0", "0 0 t 1 2 20"}) {
            refuses(four, "addEffect " + bad, "IllegalArgumentException");
        }
        refuses(four, "addEffect 1 4 x 256 1 20", NONE);
        refuses(three, "start 3", NONE);
        refuses(three, "stop 3", NONE);
        answers(four, "start 3", "1");
        refuses(four, "stop 3", STATE);
        answers(and(four, "start 3"), "stop 3", "0");
        refuses(and(four, "start 3", "pass 1"), "start 3", STATE);
        refuses(and(four, "start 3", "stop 3", "pass 1"), "stop 3", STATE);
        refuses(calls("addGroup"), "start 0", NONE);
    }

    private static void questions() {
        List<String> cue = calls("addLamp", "addLamp", "addPalette 1 9", "set 0 0 5", "record 0", "point 0 0", "record 0", "go 0");
        refuses(cue, "decides 1 0", NONE);
        refuses(cue, "decides 0 1", NONE);
        answers(cue, "decides 0 0", "0");
        refuses(and(cue, "release 0"), "decides 0 0", NONE);
        refuses(cue, "valueIn 0 0 1", NONE);
        refuses(cue, "valueIn 1 0 0", NONE);
        answers(cue, "valueIn 0 0 0", "5");
        answers(and(cue, "go 0"), "valueIn 0 0 1", "9");
        for (String question : new String[] {"tracked", "source", "paletteOf"}) {
            refuses(cue, question + " 0 0 0 1", NONE);
            refuses(cue, question + " 0 1 1 1", NONE);
            refuses(cue, question + " 0 2 0 0", "IndexOutOfBoundsException");
        }
        answers(cue, "paletteOf 0 1 0 1", "0");
        refuses(cue, "paletteOf 0 1 0 0", NONE);
        refuses(cue, "paletteOf 0 0 0 0", NONE);
        answers(cue, "tracked 0 1 0 0", "5");
        answers(cue, "source 0 1 0 0", "0");
    }

    private static void sharesOfNothing() {
        refuses(calls(), "litShare", "ArithmeticException");
        answers(calls("addLamp"), "litShare", "0.0");
        refuses(calls("addLamp", "set 0 0 1"), "meanStored", "ArithmeticException");
        answers(calls("addLamp", "set 0 0 1", "record 2"), "meanStored", "1.0");
    }
}
