import java.lang.annotation.Retention;
import java.lang.annotation.RetentionPolicy;
import java.lang.reflect.InvocationTargetException;
import java.lang.reflect.Method;
import java.util.Arrays;
import java.util.Comparator;
import java.util.function.Supplier;

/**
 * What the tests share: answers compared with those that are due, and common runs of calls. A test
 * asks more than the document's 512 calls of one object where that is plain: the class counts none.
 */
class Checks {
    static final Class<?> INDEX = IndexOutOfBoundsException.class;
    static final Class<?> ARGUMENT = IllegalArgumentException.class;
    static final Class<?> STATE = IllegalStateException.class;
    static final int NONE = -1;
    static final int[] NO_BLOCKS = {-1, 64, -64, 65, 128, Integer.MIN_VALUE, Integer.MAX_VALUE};
    static final int[] NO_STRIPES = {-1, 16, -16, 17, 64, Integer.MIN_VALUE, Integer.MAX_VALUE};

    /** The document's sentence that a test is for; the test gets a new object. */
    @Retention(RetentionPolicy.RUNTIME)
    @interface Sentence {
        String value();
    }

    private static int wrong = 0;
    /** The part of the document that is tested now. */
    private static String part = "";

    static void testing(String newPart) {
        part = newPart;
    }

    static void end(String good) {
        System.out.println(wrong == 0 ? good : wrong + " answers are not as due");
        if (wrong != 0) {
            System.exit(1);
        }
    }

    /** Runs each method of a class that is marked with its sentence. */
    static void testSentences(Class<?> tests) {
        Method[] methods = tests.getDeclaredMethods();
        Arrays.sort(methods, Comparator.comparing(Method::getName));
        int sentences = 0;
        for (Method method : methods) {
            Sentence sentence = method.getAnnotation(Sentence.class);
            if (sentence != null) {
                sentences++;
                testing(method.getName() + ", \"" + sentence.value() + "\"");
                testSentence(method);
            }
        }
        if (sentences == 0) {
            wrong("there are no tests");
        }
        end(sentences + " sentences hold");
    }

    private static void testSentence(Method method) {
        try {
            method.invoke(null, cache());
        } catch (InvocationTargetException e) {
            wrong("a call threw " + e.getCause());
        } catch (IllegalAccessException e) {
            wrong("the test can't be run: " + e);
        }
    }

    private static void wrong(String what) {
        wrong++;
        System.out.println(part + ": " + what);
    }

    // ---- answers

    static void due(String what, long got, long want) {
        if (got != want) {
            wrong(what + " answered " + got + ", due is " + want);
        }
    }

    static void due(String what, boolean got, boolean want) {
        due(what, got ? 1 : 0, want ? 1 : 0);
    }

    static void due(String what, float got, float want) {
        if (got != want) {
            wrong(what + " answered " + got + ", due is " + want);
        }
    }

    static void dueThrow(String what, Supplier<Object> call, Class<?> want) {
        String got;
        try {
            got = "" + call.get();
        } catch (RuntimeException e) {
            if (e.getClass() == want) {
                return;
            }
            got = e.toString();
        }
        wrong(what + " answered " + got + ", due is " + want);
    }

    /** The call throws, and nothing that can be asked is changed by it. */
    static void dueRefused(GatheringCache x, String what, Supplier<Object> call, Class<?> want) {
        String before = all(x);
        dueThrow(what, call, want);
        due(what + " leaves all as it was", all(x).equals(before), true);
    }

    static void dueLine(GatheringCache x, int set, int line, int... parts) {
        for (int i = 0; i < parts.length; i++) {
            due("line(" + set + ", " + line + ", " + i + ")", x.line(set, line, i), parts[i]);
        }
    }

    static void dueEmpty(GatheringCache x, int set, int line) {
        dueLine(x, set, line, NONE, NONE, NONE, NONE, NONE);
    }

    /** The blocks that the lines of a set hold, by the lines' numbers; NONE for an empty line. */
    static void dueBlocks(GatheringCache x, int set, int first, int second, int third) {
        due("line(" + set + ", 0, 0)", x.line(set, 0, 0), first);
        due("line(" + set + ", 1, 0)", x.line(set, 1, 0), second);
        due("line(" + set + ", 2, 0)", x.line(set, 2, 0), third);
    }

    static void dueCounts(GatheringCache x, int... want) {
        for (int what = 0; what < want.length; what++) {
            due("count(" + what + ")", x.count(what), want[what]);
        }
    }

    static void dueError(String text, int want) {
        GatheringCache x = cache();
        type(x, text);
        due("errorPosition of \"" + text + "\"", x.errorPosition(), want);
        due("errorPosition again", x.errorPosition(), want);
        due("the text stays", x.textLength(), text.length());
    }

    // ---- runs of calls

    static GatheringCache cache() {
        return new GatheringCache();
    }

    static void type(GatheringCache x, String text) {
        x.clearText();
        for (int i = 0; i < text.length(); i++) {
            x.appendText(text.charAt(i));
        }
    }

    static void run(GatheringCache x, String text) {
        type(x, text);
        x.runText();
    }

    /** The stick comes out, and the power is on again. */
    static void takeOut(GatheringCache x) {
        x.power(false);
        x.moveStick(false);
        x.power(true);
    }

    /** The stick is put in; the power stays off, so that nothing is destaged. */
    static void putIn(GatheringCache x) {
        x.power(false);
        x.moveStick(true);
    }

    /** Brings a full battery to the charge, 1 to 99, with the power off behind it. */
    static void drainTo(GatheringCache x, int charge) {
        x.power(false);
        x.pass(x.charge() - charge);
    }

    static void write(GatheringCache x, int... blocks) {
        for (int block : blocks) {
            x.write(block, 100 + block);
        }
    }

    // ---- all that can be asked

    /** All that queries tell of the state, in one text. */
    static String state(GatheringCache x) {
        StringBuilder s = new StringBuilder();
        s.append(x.isOn()).append(x.isIn()).append(x.charge()).append(':');
        for (int set = 0; set < 4; set++) {
            for (int line = 0; line < 3; line++) {
                for (int linePart = 0; linePart < 5; linePart++) {
                    s.append(x.line(set, line, linePart)).append(',');
                }
            }
        }
        for (int block = 0; block < 64; block++) {
            s.append(x.onDisk(block)).append(x.isFound(block)).append(x.ifWritten(block)).append(';');
        }
        for (int what = 0; what < 8; what++) {
            s.append(x.count(what)).append(' ');
        }
        s.append(x.blocksPerStripe()).append(' ').append(x.ticksToLoss());
        return s.toString();
    }

    /** The state, the saved states' number and what is told of the text. */
    static String all(GatheringCache x) {
        return state(x) + "; saved " + x.savedStates() + ", text " + x.textLength() + ", "
                + x.errorPosition();
    }
}
