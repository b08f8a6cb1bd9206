import java.util.ArrayList;
import java.util.List;
import java.util.function.Supplier;

/** The sentences of sections 7 and 8 that name a boundary, a test each. */
public final class UndoAndExceptionTests extends Checks {
    public static void main(String[] args) {
        testSentences(UndoAndExceptionTests.class);
    }

    // ---- section 7, what the state is

    private static void dueUndone(String what, GatheringCache x, Supplier<Object> call) {
        String before = state(x);
        call.get();
        due(what + " changes something", state(x).equals(before), false);
        x.undo();
        due(what + " is undone", state(x).equals(before), true);
    }

    @Sentence("The state consists of everything in sections 1 to 5")
    static void everyCallIsUndone(GatheringCache x) {
        write(x, 0, 1, 16);
        dueUndone("a gathered write", x, () -> x.write(1, 7));
        dueUndone("a write that destages", x, () -> x.write(48, 7));
        dueUndone("a read from a line", x, () -> x.read(0));
        dueUndone("a read from the disks", x, () -> x.read(63));
        dueUndone("destage", x, () -> x.destage(0));
        dueUndone("destageAll", x, () -> x.destageAll());
        dueUndone("setLimit", x, () -> x.setLimit(50));
        dueUndone("power off", x, () -> x.power(false));
        x.setLimit(19);
        dueUndone("a write through", x, () -> x.write(1, 8));
        x.power(false);
        dueUndone("power on", x, () -> x.power(true));
        dueUndone("ticks", x, () -> x.pass(18));
        dueUndone("lost lines", x, () -> x.pass(19));
        dueUndone("the stick out", x, () -> x.moveStick(false));
        x.moveStick(false);
        x.power(true);
        write(x, 0);
        x.power(false);
        dueUndone("the stick in", x, () -> x.moveStick(true));
    }

    @Sentence("The state consists of everything in sections 1 to 5")
    static void nextStampIsUndone(GatheringCache x) {
        x.write(0, 1);
        x.write(0, 2);
        x.undo();
        x.write(0, 3);
        due("the stamp", x.line(0, 0, 2), 2);
    }

    @Sentence("The state consists of everything in sections 1 to 5")
    static void nextUseIsUndone(GatheringCache x) {
        x.write(0, 1);
        x.read(0);
        x.undo();
        x.read(0);
        due("the use number", x.line(0, 0, 3), 2);
    }

    @Sentence("The state consists of everything in sections 1 to 5")
    static void limitIsUndone(GatheringCache x) {
        x.setLimit(30);
        x.setLimit(40);
        x.undo();
        due("pass", x.pass(99), 30);
        x.undo();
        x.undo();
        due("pass", x.pass(99), 100);
    }

    @Sentence("The state consists of everything in sections 1 to 5")
    static void stampsOnDisksAreUndone(GatheringCache x) {
        write(x, 0);
        takeOut(x);
        write(x, 0);
        x.undo();
        x.power(false);
        due("the line is not outdated", x.moveStick(true), 0);
    }

    @Sentence("the counts")
    static void countsAreUndone(GatheringCache x) {
        write(x, 0, 1, 63);
        x.destage(0);
        x.destageAll();
        due("3 / 2", x.blocksPerStripe(), 1.5f);
        x.undo();
        due("2 / 1", x.blocksPerStripe(), 2.0f);
        dueCounts(x, 2, 3, 3, 0, 0, 0, 0, 1);
        x.undo();
        due("none", x.blocksPerStripe(), 0.0f);
    }

    @Sentence("and for each block the value and the stamp of its latest write")
    static void latestWriteIsUndone(GatheringCache x) {
        x.write(0, 1);
        x.destageAll();
        x.write(0, 2);
        x.power(false);
        x.moveStick(false);
        due("the latest write is on the stick", x.isFound(0), false);
        x.undo();
        x.undo();
        x.undo();
        x.power(false);
        x.moveStick(false);
        due("the latest write is on the disks", x.isFound(0), true);
        due("missing", x.missing(), 0);
    }

    @Sentence("The state consists of everything in sections 1 to 5, the counts, [..]")
    static void textIsNoPartOfTheState(GatheringCache x) {
        type(x, "p;m");
        x.runText();
        x.clearText();
        x.appendText('r');
        x.undo();
        due("textLength", x.textLength(), 1);
        due("errorPosition", x.errorPosition(), 1);
        due("isOn", x.isOn(), true);
    }

    // ---- section 7, what is saved

    private static void dueSaved(String what, Supplier<Object> call, GatheringCache x, int want) {
        int before = x.savedStates();
        call.get();
        due(what + ", states saved", x.savedStates() - before, want);
    }

    @Sentence("(It is saved even if the call changes nothing.)")
    static void savedThoughNothingChanges(GatheringCache x) {
        dueSaved("destage", () -> x.destage(0), x, 1);
        dueSaved("destageAll", () -> x.destageAll(), x, 1);
        dueSaved("pass", () -> x.pass(1), x, 1);
        dueSaved("setLimit", () -> x.setLimit(100), x, 1);
        dueSaved("power on", () -> x.power(true), x, 1);
        GatheringCache y = cache();
        dueSaved("power off", () -> y.power(false), y, 1);
        dueSaved("power off already", () -> y.power(false), y, 1);
        dueSaved("the stick in already", () -> y.moveStick(true), y, 1);
        type(y, "r0");
        dueSaved("no command is executed", () -> y.runText(), y, 1);
        due("undo", y.undo(), 3);
        due("undo", y.undo(), 2);
        due("undo", y.undo(), 1);
        due("off still", y.isOn(), false);
        due("undo", y.undo(), 0);
        due("on", y.isOn(), true);
    }

    @Sentence("A method that is marked \"Undoable\" saves the state")
    static void otherMethodsSaveNothing(GatheringCache x) {
        x.pass(1);
        dueSaved("appendText", () -> x.appendText('p'), x, 0);
        dueSaved("errorPosition", () -> x.errorPosition(), x, 0);
        dueSaved("clearText", () -> x.clearText(), x, 0);
        dueSaved("queries", () -> all(x), x, 0);
        dueSaved("undo", () -> x.undo(), x, -1);
    }

    @Sentence("saves the state as it was before the call, unless the call throws an exception")
    static void refusedCallsSaveNothing(GatheringCache x) {
        for (Refused refused : refusedCalls(x)) {
            dueThrow(refused.what, refused.call, refused.want);
        }
        due("savedStates", x.savedStates(), 0);
        x.power(false);
        for (Refused refused : refusedWhileOff(x)) {
            dueThrow(refused.what, refused.call, refused.want);
        }
        due("savedStates", x.savedStates(), 1);
    }

    @Sentence("At most 6 states are saved")
    static void sixAreSaved(GatheringCache x) {
        for (int call = 1; call <= 20; call++) {
            x.write(0, call);
            due("savedStates", x.savedStates(), call < 6 ? call : 6);
        }
    }

    @Sentence("when a seventh state is saved, the oldest saved state is discarded")
    static void oldestIsDiscarded(GatheringCache x) {
        for (int call = 1; call <= 7; call++) {
            x.write(0, call);
        }
        for (int call = 6; call >= 1; call--) {
            due("undo", x.undo(), call - 1);
            due("the value", x.line(0, 0, 1), call);
        }
        dueRefused(x, "the seventh undo", () -> x.undo(), STATE);
        due("the first write stays", x.line(0, 0, 1), 1);
    }

    @Sentence("when a seventh state is saved, the oldest saved state is discarded")
    static void exactlySix(GatheringCache x) {
        for (int call = 1; call <= 6; call++) {
            x.write(0, call);
        }
        for (int call = 5; call >= 0; call--) {
            due("undo", x.undo(), call);
        }
        due("all is undone", state(x).equals(state(cache())), true);
        dueRefused(x, "the seventh undo", () -> x.undo(), STATE);
    }

    @Sentence("when a seventh state is saved, the oldest saved state is discarded")
    static void savingAndUndoingByTurns(GatheringCache x) {
        List<Integer> saved = new ArrayList<>();
        int value = 0;
        for (int step = 0; step < 200; step++) {
            // Five calls forth and three back, and now and then all the way back.
            int undos = step % 8 < 5 ? 0 : step % 50 == 45 ? saved.size() : 1;
            if (undos == 0) {
                saved.add(value);
                if (saved.size() > 6) {
                    saved.remove(0);
                }
                value = step + 1;
                x.write(0, value);
            }
            for (int i = 0; i < undos && !saved.isEmpty(); i++) {
                value = saved.remove(saved.size() - 1);
                due("undo", x.undo(), saved.size());
            }
            due("the value", x.line(0, 0, 1), value == 0 ? NONE : value);
            due("savedStates", x.savedStates(), saved.size());
        }
    }

    @Sentence("Restores the state that was saved last, and removes it from the saved states.")
    static void undoBehindUndoGoesFurtherBack(GatheringCache x) {
        x.setLimit(90);
        x.setLimit(80);
        due("undo", x.undo(), 1);
        due("charge", x.charge(), 90);
        due("undo", x.undo(), 0);
        due("charge", x.charge(), 100);
        dueRefused(x, "no state is left", () -> x.undo(), STATE);
    }

    // ---- section 8

    /** A call that is due to throw. */
    private static final class Refused {
        final String what;
        final Supplier<Object> call;
        final Class<?> want;

        Refused(String what, Supplier<Object> call, Class<?> want) {
            this.what = what;
            this.call = call;
            this.want = want;
        }
    }

    /** Calls that throw while the power is on, the stick is in and the text is empty. */
    private static Refused[] refusedCalls(GatheringCache x) {
        return new Refused[] {
            new Refused("write(-1, 0)", () -> x.write(-1, 0), INDEX),
            new Refused("write(64, 0)", () -> x.write(64, 0), INDEX),
            new Refused("write(0, -1)", () -> x.write(0, -1), ARGUMENT),
            new Refused("write(0, 1000)", () -> x.write(0, 1000), ARGUMENT),
            new Refused("read(-1)", () -> x.read(-1), INDEX),
            new Refused("read(64)", () -> x.read(64), INDEX),
            new Refused("destage(-1)", () -> x.destage(-1), INDEX),
            new Refused("destage(16)", () -> x.destage(16), INDEX),
            new Refused("pass(0)", () -> x.pass(0), ARGUMENT),
            new Refused("pass(100)", () -> x.pass(100), ARGUMENT),
            new Refused("setLimit(0)", () -> x.setLimit(0), ARGUMENT),
            new Refused("setLimit(101)", () -> x.setLimit(101), ARGUMENT),
            new Refused("moveStick(false)", () -> x.moveStick(false), STATE),
            new Refused("moveStick(true)", () -> x.moveStick(true), STATE),
            new Refused("appendText(31)", () -> x.appendText(31), ARGUMENT),
            new Refused("appendText(127)", () -> x.appendText(127), ARGUMENT),
            new Refused("runText()", () -> x.runText(), STATE),
            new Refused("line(4, 0, 0)", () -> x.line(4, 0, 0), INDEX),
            new Refused("line(0, 3, 0)", () -> x.line(0, 3, 0), INDEX),
            new Refused("line(0, 0, 5)", () -> x.line(0, 0, 5), ARGUMENT),
            new Refused("dirtyOf(16)", () -> x.dirtyOf(16), INDEX),
            new Refused("onDisk(64)", () -> x.onDisk(64), INDEX),
            new Refused("isFound(64)", () -> x.isFound(64), INDEX),
            new Refused("ifWritten(64)", () -> x.ifWritten(64), INDEX),
            new Refused("count(8)", () -> x.count(8), ARGUMENT),
        };
    }

    private static Refused[] refusedWhileOff(GatheringCache x) {
        return new Refused[] {
            new Refused("write(0, 0) off", () -> x.write(0, 0), STATE),
            new Refused("read(0) off", () -> x.read(0), STATE),
            new Refused("destage(0) off", () -> x.destage(0), STATE),
            new Refused("destageAll() off", () -> x.destageAll(), STATE),
        };
    }

    /** What a twin answers from here on, down to the last saved state. */
    private static String furtherRun(GatheringCache x) {
        StringBuilder s = new StringBuilder(all(x));
        while (x.savedStates() > 3) {
            s.append('\n').append(x.undo()).append(all(x));
        }
        x.power(true);
        s.append('\n').append(x.write(0, 9)).append(x.read(0)).append(x.pass(99)).append(all(x));
        while (x.savedStates() > 0) {
            s.append('\n').append(x.undo()).append(all(x));
        }
        return s.toString();
    }

    private static void duePlainTwin(String what, GatheringCache x, GatheringCache twin) {
        due(what + ": all goes on as without the refused calls", furtherRun(x).equals(furtherRun(twin)), true);
    }

    @Sentence("A call that throws an exception changes nothing.")
    static void refusedCallsChangeNothing(GatheringCache x) {
        GatheringCache twin = cache();
        for (GatheringCache each : new GatheringCache[] {x, twin}) {
            write(each, 0, 1, 16, 63);
            each.setLimit(90);
            each.destage(0);
        }
        for (Refused refused : refusedCalls(x)) {
            dueRefused(x, refused.what, refused.call, refused.want);
        }
        duePlainTwin("on and in", x, twin);
        dueRefused(x, "undo with no state", () -> x.undo(), STATE);
    }

    @Sentence("A call that throws an exception changes nothing.")
    static void refusedCallsWhileOffChangeNothing(GatheringCache x) {
        GatheringCache twin = cache();
        for (GatheringCache each : new GatheringCache[] {x, twin}) {
            write(each, 0, 1, 16, 63);
            each.power(false);
        }
        for (Refused refused : refusedWhileOff(x)) {
            dueRefused(x, refused.what, refused.call, refused.want);
        }
        duePlainTwin("off", x, twin);
    }

    @Sentence("A call that throws an exception changes nothing.")
    static void refusedCallsWhileOutChangeNothing(GatheringCache x) {
        GatheringCache twin = cache();
        for (GatheringCache each : new GatheringCache[] {x, twin}) {
            write(each, 0, 1, 16, 63);
            takeOut(each);
        }
        dueRefused(x, "destage(0) out", () -> x.destage(0), STATE);
        dueRefused(x, "destageAll() out", () -> x.destageAll(), STATE);
        dueRefused(x, "moveStick(true) on", () -> x.moveStick(true), STATE);
        duePlainTwin("out", x, twin);
    }

    @Sentence("A call that throws an exception changes nothing.")
    static void refusedTextCallsChangeNothing(GatheringCache x) {
        String full = "p;".repeat(39) + "w1";
        type(x, full);
        dueRefused(x, "appendText while full", () -> x.appendText(','), STATE);
        dueRefused(x, "appendText(127) while full", () -> x.appendText(127), ARGUMENT);
        dueRefused(x, "runText", () -> x.runText(), STATE);
        due("isOn", x.isOn(), true);
        type(x, "w0,1;p;w0,1;r64");
        dueRefused(x, "runText", () -> x.runText(), STATE);
        due("stamps", x.write(0, 1) * 10 + x.line(0, 0, 2), 1);
    }

    @Sentence("If several exceptions apply to a call, the one that is named first in the throws clause of the method is thrown.")
    static void writeThrowsFirstNamed(GatheringCache x) {
        dueRefused(x, "block and value", () -> x.write(64, 1000), INDEX);
        dueRefused(x, "block and value", () -> x.write(-1, -1), INDEX);
        x.power(false);
        dueRefused(x, "block and power", () -> x.write(64, 0), INDEX);
        dueRefused(x, "block, value and power", () -> x.write(-1, 1000), INDEX);
        dueRefused(x, "value and power", () -> x.write(0, 1000), ARGUMENT);
        dueRefused(x, "value and power", () -> x.write(63, -1), ARGUMENT);
    }

    @Sentence("If several exceptions apply to a call, the one that is named first in the throws clause of the method is thrown.")
    static void readThrowsFirstNamed(GatheringCache x) {
        x.power(false);
        dueRefused(x, "block and power", () -> x.read(64), INDEX);
        dueRefused(x, "block and power", () -> x.read(-1), INDEX);
    }

    @Sentence("If several exceptions apply to a call, the one that is named first in the throws clause of the method is thrown.")
    static void destageThrowsFirstNamed(GatheringCache x) {
        x.power(false);
        dueRefused(x, "stripe and power", () -> x.destage(16), INDEX);
        x.moveStick(false);
        dueRefused(x, "stripe, power and stick", () -> x.destage(-1), INDEX);
        x.power(true);
        dueRefused(x, "stripe and stick", () -> x.destage(16), INDEX);
    }

    @Sentence("If several exceptions apply to a call, the one that is named first in the throws clause of the method is thrown.")
    static void appendTextThrowsFirstNamed(GatheringCache x) {
        type(x, "p".repeat(80));
        dueRefused(x, "character and length", () -> x.appendText(31), ARGUMENT);
        dueRefused(x, "character and length", () -> x.appendText(127), ARGUMENT);
    }

    @Sentence("If several exceptions apply to a call, the one that is named first in the throws clause of the method is thrown.")
    static void lineThrowsFirstNamed(GatheringCache x) {
        dueRefused(x, "set and part", () -> x.line(4, 0, 5), INDEX);
        dueRefused(x, "line and part", () -> x.line(0, 3, -1), INDEX);
        dueRefused(x, "set, line and part", () -> x.line(-1, -1, -1), INDEX);
    }

    @Sentence("NONE = -1: The result of several methods if there is nothing to return.")
    static void none(GatheringCache x) {
        due("NONE", GatheringCache.NONE, -1);
        due("line", x.line(0, 0, 0), GatheringCache.NONE);
        due("ticksToLoss", x.ticksToLoss(), GatheringCache.NONE);
        x.power(false);
        due("ifWritten", x.ifWritten(0), GatheringCache.NONE);
        due("ifDestaged", x.ifDestaged(), GatheringCache.NONE);
        type(x, "p");
        due("errorPosition", x.errorPosition(), GatheringCache.NONE);
    }
}
