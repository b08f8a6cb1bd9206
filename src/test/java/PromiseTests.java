/** For each promise of the document: ordinary inputs, the edges that it names, and wrong inputs. */
public final class PromiseTests extends Checks {
    public static void main(String[] args) {
        testing("promise 1"); newObject();
        testing("promise 2"); writeGathered(); writeTakesLines(); writeDestagesFullest(); writeThrough(); writeThrows();
        testing("promise 3"); read(); readThrows();
        testing("promise 4"); destage(); destageThrows();
        testing("promise 5"); destageAll();
        testing("promise 6"); pass(); passLosesLines(); passThrows();
        testing("promise 7"); setLimit();
        testing("promise 8"); power();
        testing("promise 9"); moveStick(); moveStickOutdated();
        testing("promise 10"); appendText();
        testing("promise 11"); clearText();
        testing("promise 12"); errorPosition();
        testing("promise 13"); runText(); runTextEndsEarly(); runTextThrows();
        testing("promise 14"); undo(); undoOfEveryCall(); undoKeepsText();
        testing("promise 15"); isOn();
        testing("promise 16"); isIn();
        testing("promise 17"); charge();
        testing("promise 18"); line();
        testing("promise 19"); dirtyOf();
        testing("promise 20"); dirty();
        testing("promise 21"); used();
        testing("promise 22"); onDisk();
        testing("promise 23"); isFound();
        testing("promise 24"); missing();
        testing("promise 25"); ifWritten();
        testing("promise 26"); ifDestaged();
        testing("promise 27"); ticksToLoss();
        testing("promise 28"); count();
        testing("promise 29"); blocksPerStripe();
        testing("promise 30"); savedStates();
        testing("promise 31"); textLength();
        end("all promises are kept");
    }

    // ---- promise 1

    private static void newObject() {
        GatheringCache x = cache();
        due("isOn", x.isOn(), true);
        due("isIn", x.isIn(), true);
        due("charge", x.charge(), 100);
        for (int set = 0; set < 4; set++) {
            for (int line = 0; line < 3; line++) {
                dueEmpty(x, set, line);
            }
        }
        for (int block = 0; block < 64; block++) {
            due("onDisk", x.onDisk(block), 0);
            due("isFound", x.isFound(block), true);
        }
        dueCounts(x, 0, 0, 0, 0, 0, 0, 0, 0);
        due("savedStates", x.savedStates(), 0);
        due("textLength", x.textLength(), 0);
        due("NONE", GatheringCache.NONE, -1);
        due("limit is 100", x.pass(1), 100);
    }

    // ---- promise 2

    private static void writeGathered() {
        GatheringCache x = cache();
        due("first write", x.write(0, 0), 0);
        dueLine(x, 0, 0, 0, 0, 1, 1, 1);
        due("another set", x.write(63, 999), 0);
        dueLine(x, 3, 0, 63, 999, 2, 2, 1);
        due("the same block again", x.write(0, 7), 0);
        dueLine(x, 0, 0, 0, 7, 3, 3, 1);
        due("not on the disks", x.onDisk(0), 0);
        due("used", x.used(), 2);
        dueCounts(x, 0, 0, 3, 0, 0, 0, 0, 0);
        due("destaged", x.destage(0), 1);
        dueLine(x, 0, 0, 0, 7, 3, 3, 0);
        due("a clean line that holds the block", x.write(0, 8), 0);
        dueLine(x, 0, 0, 0, 8, 4, 4, 1);
    }

    private static void writeTakesLines() {
        GatheringCache x = cache();
        x.write(4, 1);
        x.write(20, 2);
        x.write(36, 3);
        x.destageAll();
        x.read(4);
        due("the clean line with the least use", x.write(52, 4), 0);
        dueLine(x, 1, 1, 52, 4, 4, 5, 1);
        due("the dirty line is no candidate", x.write(5, 5), 0);
        dueLine(x, 1, 2, 5, 5, 5, 6, 1);
        due("the last clean line", x.write(21, 6), 0);
        dueLine(x, 1, 0, 21, 6, 6, 7, 1);

        x = cache();
        x.write(0, 1);
        x.destageAll();
        due("an empty line before a clean one", x.write(1, 2), 0);
        due("line 1", x.line(0, 1, 0), 1);
        due("an empty line behind a clean one", x.write(2, 3), 0);
        due("line 2", x.line(0, 2, 0), 2);
    }

    private static void writeDestagesFullest() {
        GatheringCache x = cache();
        x.write(0, 1);
        x.write(16, 2);
        x.write(17, 3);
        due("the stripe with two lines", x.write(32, 4), 5);
        due("block 0 is still dirty", x.line(0, 0, 4), 1);
        dueLine(x, 0, 1, 32, 4, 4, 4, 1);
        dueLine(x, 0, 2, 17, 3, 3, 3, 0);
        due("block 16", x.onDisk(16), 2);
        due("block 17", x.onDisk(17), 3);
        due("block 0", x.onDisk(0), 0);

        x = cache();
        x.write(48, 1);
        x.write(16, 2);
        x.write(32, 3);
        due("of several the lowest stripe", x.write(0, 4), 4);
        dueLine(x, 0, 1, 0, 4, 4, 4, 1);
        due("block 16", x.onDisk(16), 2);
        dueCounts(x, 2, 2, 4, 0, 0, 0, 0, 1);

        x = cache();
        x.write(13, 1);
        x.write(12, 2);
        x.write(14, 3);
        x.write(13, 4);
        due("three of one stripe", x.write(15, 5), 5);
        dueLine(x, 3, 1, 15, 5, 5, 5, 1);
        dueLine(x, 3, 0, 13, 4, 4, 4, 0);
        due("block 13", x.onDisk(13), 4);
        dueCounts(x, 1, 4, 5, 0, 0, 0, 0, 1);
    }

    private static void writeThrough() {
        GatheringCache x = cache();
        x.setLimit(20);
        due("gathered at 20", x.write(8, 1), 0);
        x.setLimit(19);
        due("through at 19", x.write(8, 2), 4);
        dueLine(x, 2, 0, 8, 2, 2, 2, 0);
        due("onDisk", x.onDisk(8), 2);
        due("through, no line takes it", x.write(9, 3), 4);
        due("used", x.used(), 1);
        due("onDisk", x.onDisk(9), 3);
        dueCounts(x, 4, 4, 1, 2, 0, 0, 0, 0);

        x = cache();
        x.write(8, 1);
        x.power(false);
        x.moveStick(false);
        x.power(true);
        due("through while the stick is out", x.write(8, 2), 4);
        dueLine(x, 2, 0, 8, 1, 1, 1, 1);
        due("onDisk", x.onDisk(8), 2);
    }

    private static void writeThrows() {
        GatheringCache x = cache();
        String before = state(x);
        dueThrow("write(-1, 0)", () -> x.write(-1, 0), INDEX);
        dueThrow("write(64, 0)", () -> x.write(64, 0), INDEX);
        dueThrow("write(64, 1000)", () -> x.write(64, 1000), INDEX);
        dueThrow("write(MIN, 0)", () -> x.write(Integer.MIN_VALUE, 0), INDEX);
        dueThrow("write(MAX, 0)", () -> x.write(Integer.MAX_VALUE, 0), INDEX);
        dueThrow("write(0, -1)", () -> x.write(0, -1), ARGUMENT);
        dueThrow("write(0, 1000)", () -> x.write(0, 1000), ARGUMENT);
        due("nothing is changed", state(x).equals(before), true);
        due("nothing is saved", x.savedStates(), 0);
        x.power(false);
        dueThrow("write(64, 0) off", () -> x.write(64, 0), INDEX);
        dueThrow("write(0, 1000) off", () -> x.write(0, 1000), ARGUMENT);
        dueThrow("write(0, 0) off", () -> x.write(0, 0), STATE);
        due("nothing is saved", x.savedStates(), 1);
        x.power(true);
        x.write(0, 5);
        due("no stamp was given", x.line(0, 0, 2), 1);
    }

    // ---- promise 3

    private static void read() {
        GatheringCache x = cache();
        due("never written", x.read(0), 0);
        dueCounts(x, 1, 0, 0, 0, 0, 1, 0, 0);
        due("no line takes it", x.used(), 0);
        x.write(63, 9);
        due("from a line", x.read(63), 9);
        dueLine(x, 3, 0, 63, 9, 1, 2, 1);
        dueCounts(x, 1, 0, 1, 0, 1, 1, 0, 0);
        x.power(false);
        x.moveStick(false);
        x.power(true);
        due("from the disks while the stick is out", x.read(63), 0);
        dueLine(x, 3, 0, 63, 9, 1, 2, 1);
        dueCounts(x, 2, 0, 1, 0, 1, 2, 0, 0);
    }

    private static void readThrows() {
        GatheringCache x = cache();
        dueThrow("read(-1)", () -> x.read(-1), INDEX);
        dueThrow("read(64)", () -> x.read(64), INDEX);
        x.power(false);
        dueThrow("read(64) off", () -> x.read(64), INDEX);
        dueThrow("read(0) off", () -> x.read(0), STATE);
        due("nothing is saved", x.savedStates(), 1);
        due("nothing is counted", x.count(0) + x.count(5), 0);
    }

    // ---- promise 4

    private static void destage() {
        GatheringCache x = cache();
        due("nothing to destage", x.destage(15), 0);
        dueCounts(x, 0, 0, 0, 0, 0, 0, 0, 0);
        x.write(60, 1);
        due("one block", x.destage(15), 1);
        dueCounts(x, 2, 2, 1, 0, 0, 0, 0, 1);
        due("nothing again", x.destage(15), 0);
        dueCounts(x, 2, 2, 1, 0, 0, 0, 0, 1);
        x.write(60, 2);
        x.write(61, 3);
        x.write(28, 4);
        due("two blocks", x.destage(15), 2);
        dueCounts(x, 4, 5, 4, 0, 0, 0, 0, 2);
        due("the other stripe stays dirty", x.dirtyOf(7), 1);
        due("onDisk", x.onDisk(60) * 1000 + x.onDisk(61), 2003);
        x.write(0, 1);
        x.write(1, 2);
        x.write(2, 3);
        due("three blocks", x.destage(0), 3);
        dueCounts(x, 5, 9, 7, 0, 0, 0, 0, 3);
        dueLine(x, 0, 1, 1, 2, 6, 6, 0);
    }

    private static void destageThrows() {
        GatheringCache x = cache();
        dueThrow("destage(-1)", () -> x.destage(-1), INDEX);
        dueThrow("destage(16)", () -> x.destage(16), INDEX);
        x.write(0, 1);
        x.power(false);
        dueThrow("destage(16) off", () -> x.destage(16), INDEX);
        dueThrow("destage(0) off", () -> x.destage(0), STATE);
        x.moveStick(false);
        dueThrow("destage(0) off and out", () -> x.destage(0), STATE);
        x.power(true);
        dueThrow("destage(0) out", () -> x.destage(0), STATE);
        due("still dirty", x.dirtyOf(0), 1);
        due("saved", x.savedStates(), 4);
    }

    // ---- promise 5

    private static void destageAll() {
        GatheringCache x = cache();
        due("nothing", x.destageAll(), 0);
        x.write(0, 1);
        x.write(1, 2);
        x.write(16, 3);
        x.write(63, 4);
        due("four blocks", x.destageAll(), 4);
        due("dirty", x.dirty(), 0);
        due("used", x.used(), 4);
        dueCounts(x, 6, 7, 4, 0, 0, 0, 0, 3);
        due("onDisk(63)", x.onDisk(63), 4);
        x.power(false);
        dueThrow("destageAll off", x::destageAll, STATE);
        x.moveStick(false);
        x.power(true);
        dueThrow("destageAll out", x::destageAll, STATE);
    }

    // ---- promise 6

    private static void pass() {
        GatheringCache x = cache();
        due("not above the limit", x.pass(1), 100);
        x.power(false);
        due("a tick off", x.pass(1), 99);
        x.power(true);
        due("odd to the limit", x.pass(1), 100);
        x.power(false);
        due("off", x.pass(99), 1);
        x.moveStick(false);
        x.power(true);
        due("the stick out, the power on", x.pass(1), 0);
        due("not below 0", x.pass(99), 0);
        x.power(false);
        x.moveStick(true);
        x.power(true);
        due("2 a tick", x.pass(10), 20);
        due("to the limit", x.pass(99), 100);
        x.setLimit(50);
        due("at the lower limit", x.pass(5), 50);
    }

    private static void passLosesLines() {
        GatheringCache x = cache();
        x.write(0, 1);
        x.write(5, 2);
        x.destage(0);
        x.write(10, 3);
        x.power(false);
        x.pass(99);
        due("used at 1", x.used(), 3);
        due("lost at 1", x.count(6), 0);
        due("charge", x.pass(1), 0);
        due("used at 0", x.used(), 0);
        due("dirty at 0", x.dirty(), 0);
        dueEmpty(x, 0, 0);
        dueEmpty(x, 1, 0);
        due("only dirty lines are lost", x.count(6), 2);
        x.pass(10);
        due("not lost twice", x.count(6), 2);
        due("missing", x.missing(), 2);
    }

    private static void passThrows() {
        GatheringCache x = cache();
        dueThrow("pass(0)", () -> x.pass(0), ARGUMENT);
        dueThrow("pass(-1)", () -> x.pass(-1), ARGUMENT);
        dueThrow("pass(100)", () -> x.pass(100), ARGUMENT);
        due("nothing is saved", x.savedStates(), 0);
    }

    // ---- promise 7

    private static void setLimit() {
        GatheringCache x = cache();
        due("99", x.setLimit(99), 99);
        due("100 does not load", x.setLimit(100), 99);
        due("pass", x.pass(1), 100);
        due("1", x.setLimit(1), 1);
        due("pass at limit 1", x.pass(3), 1);
        x.setLimit(30);
        due("up to the limit", x.pass(99), 30);
        due("equal to the charge", x.setLimit(30), 30);
        due("above the charge", x.setLimit(31), 30);
        dueThrow("setLimit(0)", () -> x.setLimit(0), ARGUMENT);
        dueThrow("setLimit(-1)", () -> x.setLimit(-1), ARGUMENT);
        dueThrow("setLimit(101)", () -> x.setLimit(101), ARGUMENT);
        due("the limit is as it was", x.pass(1), 31);
        x.power(false);
        x.moveStick(false);
        due("off and out", x.setLimit(7), 7);
    }

    // ---- promise 8

    private static void power() {
        GatheringCache x = cache();
        x.write(0, 1);
        x.write(1, 2);
        x.write(63, 3);
        due("on already", x.power(true), 0);
        due("off", x.power(false), 0);
        due("off already", x.power(false), 0);
        x.pass(80);
        due("on at 20", x.power(true), 0);
        due("dirty", x.dirty(), 3);
        x.power(false);
        x.pass(1);
        due("off already at 19", x.power(false), 0);
        due("on at 19", x.power(true), 3);
        due("dirty", x.dirty(), 0);
        due("used", x.used(), 3);
        dueCounts(x, 4, 5, 3, 0, 0, 0, 0, 2);

        x = cache();
        x.write(0, 1);
        x.setLimit(10);
        due("on already at 10", x.power(true), 0);
        due("dirty", x.dirty(), 1);
        x.power(false);
        x.moveStick(false);
        due("on at 10 while the stick is out", x.power(true), 0);
        due("dirty", x.dirty(), 1);
        due("saved each time", x.savedStates(), 6);
    }

    // ---- promise 9

    private static void moveStick() {
        GatheringCache x = cache();
        dueThrow("on, out", () -> x.moveStick(false), STATE);
        dueThrow("on, in already", () -> x.moveStick(true), STATE);
        due("nothing is saved", x.savedStates(), 0);
        x.write(10, 1);
        x.write(11, 2);
        x.write(14, 3);
        x.destage(3);
        x.power(false);
        due("in already", x.moveStick(true), 0);
        due("out", x.moveStick(false), 0);
        due("out already", x.moveStick(false), 0);
        due("isIn", x.isIn(), false);
        x.power(true);
        dueThrow("on, out already", () -> x.moveStick(false), STATE);
        x.write(10, 4);
        x.write(14, 5);
        x.power(false);
        due("in, a dirty and a clean line are outdated", x.moveStick(true), 2);
        due("isIn", x.isIn(), true);
        dueEmpty(x, 2, 0);
        dueEmpty(x, 3, 0);
        dueLine(x, 2, 1, 11, 2, 2, 2, 1);
        due("outdated lines are not lost", x.count(6), 0);
        due("in already", x.moveStick(true), 0);
        x.moveStick(false);
        x.moveStick(true);
        due("the line with the newer stamp stays", x.used(), 1);
    }

    private static void moveStickOutdated() {
        GatheringCache x = cache();
        x.write(0, 1);
        x.destageAll();
        x.write(16, 2);
        x.power(false);
        x.moveStick(false);
        x.power(true);
        x.write(16, 3);
        x.power(false);
        due("out already", x.moveStick(false), 0);
        due("no line becomes empty out there", x.used(), 2);
        due("in", x.moveStick(true), 1);
        dueLine(x, 0, 0, 0, 1, 1, 1, 0);
        dueEmpty(x, 0, 1);
    }

    // ---- promises 10 and 11

    private static void appendText() {
        GatheringCache x = cache();
        dueThrow("31", () -> x.appendText(31), ARGUMENT);
        dueThrow("127", () -> x.appendText(127), ARGUMENT);
        dueThrow("-1", () -> x.appendText(-1), ARGUMENT);
        dueThrow("112 + 65536", () -> x.appendText(112 + 65536), ARGUMENT);
        due("32", x.appendText(32), 1);
        due("126", x.appendText(126), 2);
        for (int length = 3; length <= 80; length++) {
            due("append", x.appendText('p'), length);
        }
        dueThrow("full", () -> x.appendText('p'), STATE);
        dueThrow("full and out of range", () -> x.appendText(127), ARGUMENT);
        due("the length", x.textLength(), 80);
        due("no state is saved", x.savedStates(), 0);
    }

    private static void clearText() {
        GatheringCache x = cache();
        due("empty", x.clearText(), 0);
        type(x, "p;m");
        due("three", x.clearText(), 3);
        due("empty then", x.textLength(), 0);
        due("no state is saved", x.savedStates(), 0);
        x.appendText('p');
        due("from the start again", x.errorPosition(), -1);
    }

    // ---- promise 12

    private static void errorPosition() {
        for (String valid : new String[] {"p", "m", "w0,0", "w63,999", "r0", "r63", "d0", "d15", "t1",
                "t99", "r6", "r7", "d1", "d9", "t9", "t10", "w9,10", "w10,100", "p;m;p", "r1;w2,3;d4;t5"}) {
            dueError(valid, -1);
        }
        for (String early : new String[] {"", "w", "w0", "w0,", "r", "d", "t", "p;", "r1;", "w1,2;"}) {
            dueError(early, early.length());
        }
        dueError(";", 0);
        dueError(" p", 0);
        dueError("x", 0);
        dueError("P", 0);
        dueError("5", 0);
        dueError("pp", 1);
        dueError("p ", 1);
        dueError("p;;p", 2);
        dueError("p,m", 1);
        dueError("w64,0", 2);
        dueError("w70,0", 2);
        dueError("w00,0", 2);
        dueError("w01,0", 2);
        dueError("w,0", 1);
        dueError("w-1,0", 1);
        dueError("w1;p", 2);
        dueError("w1,1000", 6);
        dueError("w1,00", 4);
        dueError("w1,01", 4);
        dueError("w1,;", 3);
        dueError("w1,2,3", 4);
        dueError("w1 ,2", 2);
        dueError("w630", 3);
        dueError("r64", 2);
        dueError("r631", 3);
        dueError("r00", 2);
        dueError("r1,2", 2);
        dueError("r/", 1);
        dueError("r:", 1);
        dueError("d16", 2);
        dueError("d20", 2);
        dueError("d150", 3);
        dueError("d01", 2);
        dueError("t0", 1);
        dueError("t01", 1);
        dueError("t100", 3);
        dueError("t;", 1);
        dueError("t1;t0", 4);
        dueError("p1", 1);
        dueError("m;r", 3);
        GatheringCache x = cache();
        type(x, "r12,");
        type(x, "r");
        due("a longer text was there before", x.errorPosition(), 1);
        type(x, "r1");
        due("its rest is not read", x.errorPosition(), -1);
        dueError("p;".repeat(39) + "r1", -1);
        dueError("p;".repeat(40), 80);
        dueError("p;".repeat(39) + "w1", 80);
        dueError("p;".repeat(39) + "r?", 79);
    }

    // ---- promise 13

    private static void runText() {
        GatheringCache x = cache();
        type(x, "w0,5;w1,6;r0;d0;t9;p;m;t9;p;w0,7;r1");
        due("all commands", x.runText(), 11);
        due("isIn", x.isIn(), false);
        due("isOn", x.isOn(), true);
        due("charge", x.charge(), 91);
        due("onDisk(0)", x.onDisk(0), 7);
        due("onDisk(1)", x.onDisk(1), 6);
        dueCounts(x, 5, 5, 2, 1, 1, 1, 0, 1);
        due("saved as one call", x.savedStates(), 1);
        due("the text stays", x.textLength(), 35);
        due("undone as one call", x.undo(), 0);
        due("nothing is left of it", state(x).equals(state(cache())), true);

        x = cache();
        type(x, "p;".repeat(39) + "p");
        due("forty commands", x.runText(), 40);
        due("isOn", x.isOn(), true);

        x = cache();
        x.write(3, 9);
        x.setLimit(19);
        type(x, "p;p");
        due("p switches on with destaging", x.runText(), 2);
        due("dirty", x.dirty(), 0);
        type(x, "p;m;p;w3,1;p;m");
        due("m puts the stick in", x.runText(), 6);
        due("the outdated line is empty", x.used(), 0);
        type(x, "p;w63,999");
        x.runText();
        due("the largest numbers", x.onDisk(63), 999);
    }

    private static void runTextEndsEarly() {
        GatheringCache x = cache();
        type(x, "m;w0,1");
        due("m while on", x.runText(), 0);
        due("saved all the same", x.savedStates(), 1);
        due("isIn", x.isIn(), true);
        type(x, "w0,1;p;w0,2;p");
        due("w while off", x.runText(), 2);
        due("isOn", x.isOn(), false);
        due("the later ones are not executed", x.line(0, 0, 1), 1);
        due("no stamp is given", x.line(0, 0, 2), 1);
        type(x, "t1;r0;t1");
        due("r while off", x.runText(), 1);
        due("charge", x.charge(), 99);
        type(x, "t1;d0;t1");
        due("d while off", x.runText(), 1);
        type(x, "m;p;t1;d0;t1");
        due("d while out", x.runText(), 3);
        due("charge", x.charge(), 97);
    }

    private static void runTextThrows() {
        GatheringCache x = cache();
        dueThrow("empty", x::runText, STATE);
        type(x, "w0,1;");
        dueThrow("ends too early", x::runText, STATE);
        type(x, "w0,1;r64");
        dueThrow("not valid", x::runText, STATE);
        due("nothing is executed", state(x).equals(state(cache())), true);
        due("nothing is saved", x.savedStates(), 0);
    }

    // ---- promise 14

    private static void undo() {
        GatheringCache x = cache();
        dueThrow("nothing saved", x::undo, STATE);
        String[] states = new String[9];
        for (int i = 0; i < 9; i++) {
            states[i] = state(x);
            x.write(i, i + 1);
            due("saved", x.savedStates(), Math.min(i + 1, 6));
        }
        for (int i = 8; i >= 3; i--) {
            due("undo", x.undo(), i - 3);
            due("the state " + i, state(x).equals(states[i]), true);
        }
        dueThrow("all undone", x::undo, STATE);
        due("the oldest three are gone", state(x).equals(states[3]), true);
        x.write(3, 4);
        due("stamps and uses are given again", state(x).equals(states[4]), true);
        due("saved again", x.undo(), 0);
    }

    private static void undoOfEveryCall() {
        GatheringCache x = cache();
        for (int block = 0; block < 64; block += 5) {
            x.write(block, block);
        }
        x.setLimit(60);
        String[] names = {"write", "read", "destage", "destageAll", "pass", "setLimit", "power", "moveStick"};
        for (int call = 0; call < names.length; call++) {
            x.power(call != 7);
            String before = state(x);
            switch (call) {
                case 0: x.write(8, 3); break;
                case 1: x.read(60); break;
                case 2: x.destage(15); break;
                case 3: x.destageAll(); break;
                case 4: x.power(false); before = state(x); x.pass(99); break;
                case 5: x.setLimit(19); break;
                case 6: x.power(false); break;
                default: x.moveStick(false); break;
            }
            due(names[call] + " changes", state(x).equals(before), false);
            x.undo();
            due(names[call] + " is undone", state(x).equals(before), true);
        }
        x.setLimit(40);
        x.undo();
        x.power(true);
        due("the limit is undone, too", x.pass(99), 60);
    }

    private static void undoKeepsText() {
        GatheringCache x = cache();
        x.write(0, 1);
        type(x, "p");
        due("undo", x.undo(), 0);
        due("the text is no part of the state", x.textLength(), 1);
    }

    // ---- promises 15 to 17

    private static void isOn() {
        GatheringCache x = cache();
        x.power(false);
        due("off", x.isOn(), false);
        x.power(true);
        due("on", x.isOn(), true);
    }

    private static void isIn() {
        GatheringCache x = cache();
        x.power(false);
        due("in", x.isIn(), true);
        x.moveStick(false);
        due("out", x.isIn(), false);
        x.moveStick(true);
        due("in again", x.isIn(), true);
    }

    private static void charge() {
        GatheringCache x = cache();
        x.power(false);
        x.pass(7);
        due("93", x.charge(), 93);
        x.setLimit(50);
        due("50", x.charge(), 50);
        due("a query changes nothing", x.charge(), 50);
    }

    // ---- promise 18

    private static void line() {
        GatheringCache x = cache();
        dueThrow("set -1", () -> x.line(-1, 0, 0), INDEX);
        dueThrow("set 4", () -> x.line(4, 0, 0), INDEX);
        dueThrow("line -1", () -> x.line(0, -1, 0), INDEX);
        dueThrow("line 3", () -> x.line(0, 3, 0), INDEX);
        dueThrow("line 3 and part 5", () -> x.line(0, 3, 5), INDEX);
        dueThrow("set MAX", () -> x.line(Integer.MAX_VALUE, 0, 0), INDEX);
        dueThrow("part -1", () -> x.line(0, 0, -1), ARGUMENT);
        dueThrow("part 5", () -> x.line(3, 2, 5), ARGUMENT);
        x.write(44, 1);
        x.write(45, 2);
        x.write(46, 3);
        dueLine(x, 3, 0, 44, 1, 1, 1, 1);
        dueLine(x, 3, 1, 45, 2, 2, 2, 1);
        dueLine(x, 3, 2, 46, 3, 3, 3, 1);
        dueEmpty(x, 2, 2);
        x.power(false);
        x.moveStick(false);
        dueLine(x, 3, 1, 45, 2, 2, 2, 1);
    }

    // ---- promises 19 to 21

    private static void dirtyOf() {
        GatheringCache x = cache();
        dueThrow("-1", () -> x.dirtyOf(-1), INDEX);
        dueThrow("16", () -> x.dirtyOf(16), INDEX);
        x.write(60, 1);
        x.write(61, 1);
        x.write(44, 1);
        x.write(0, 1);
        due("stripe 15", x.dirtyOf(15), 2);
        due("stripe 11", x.dirtyOf(11), 1);
        due("stripe 0", x.dirtyOf(0), 1);
        due("stripe 1", x.dirtyOf(1), 0);
        x.destage(15);
        due("clean", x.dirtyOf(15), 0);
        x.power(false);
        x.moveStick(false);
        due("while the stick is out", x.dirtyOf(0), 1);
    }

    private static void dirty() {
        GatheringCache x = cache();
        x.write(60, 1);
        x.write(61, 1);
        x.write(0, 1);
        due("three", x.dirty(), 3);
        x.destage(15);
        due("one", x.dirty(), 1);
        x.power(false);
        x.moveStick(false);
        due("while the stick is out", x.dirty(), 1);
    }

    private static void used() {
        GatheringCache x = cache();
        x.write(60, 1);
        x.write(61, 1);
        x.destageAll();
        due("clean lines, too", x.used(), 2);
        for (int block = 0; block < 64; block++) {
            x.write(block, 1);
        }
        due("all", x.used(), 12);
        x.power(false);
        x.moveStick(false);
        due("while the stick is out", x.used(), 12);
    }

    // ---- promises 22 to 24

    private static void onDisk() {
        GatheringCache x = cache();
        dueThrow("-1", () -> x.onDisk(-1), INDEX);
        dueThrow("64", () -> x.onDisk(64), INDEX);
        x.write(63, 12);
        due("gathered", x.onDisk(63), 0);
        x.destageAll();
        due("destaged", x.onDisk(63), 12);
        due("not counted", x.count(0), 2);
        due("not counted as a read", x.count(5), 0);
    }

    private static void isFound() {
        GatheringCache x = cache();
        dueThrow("-1", () -> x.isFound(-1), INDEX);
        dueThrow("64", () -> x.isFound(64), INDEX);
        x.write(10, 1);
        due("in a line", x.isFound(10), true);
        x.power(false);
        due("off", x.isFound(10), true);
        x.moveStick(false);
        due("out", x.isFound(10), false);
        due("another block", x.isFound(11), true);
        x.power(true);
        x.write(10, 1);
        due("on the disks", x.isFound(10), true);
        x.write(20, 1);
        x.power(false);
        x.moveStick(true);
        x.power(true);
        x.write(20, 2);
        due("a newer one in a line", x.isFound(20), true);
        x.power(false);
        x.pass(99);
        x.pass(1);
        due("lost", x.isFound(20), false);
        due("written through before", x.isFound(10), true);
        x.power(true);
        x.write(20, 3);
        due("written again", x.isFound(20), true);
        x.undo();
        due("undone", x.isFound(20), false);
    }

    private static void missing() {
        GatheringCache x = cache();
        x.write(0, 1);
        x.write(63, 1);
        x.write(63, 2);
        x.destage(0);
        due("none", x.missing(), 0);
        x.power(false);
        x.moveStick(false);
        due("one is out", x.missing(), 1);
        x.power(true);
        x.power(false);
        due("it is still missing", x.missing(), 1);
        x.moveStick(true);
        due("none again", x.missing(), 0);

        x = cache();
        x.write(0, 1);
        x.write(62, 1);
        x.power(false);
        x.moveStick(false);
        due("the first block is one of them", x.missing(), 2);
    }

    // ---- promises 25 to 27

    private static void dueWritten(GatheringCache x, int block, int want) {
        String before = state(x);
        due("ifWritten(" + block + ")", x.ifWritten(block), want);
        due("it changes nothing", state(x).equals(before), true);
        due("write(" + block + ")", x.write(block, 1), want);
    }

    private static void ifWritten() {
        GatheringCache x = cache();
        dueThrow("-1", () -> x.ifWritten(-1), INDEX);
        dueThrow("64", () -> x.ifWritten(64), INDEX);
        dueWritten(x, 0, 0);
        dueWritten(x, 16, 0);
        dueWritten(x, 17, 0);
        dueWritten(x, 17, 0);
        dueWritten(x, 18, 5);
        dueWritten(x, 32, 0);
        dueWritten(x, 48, 4);
        x.destageAll();
        dueWritten(x, 0, 0);
        dueWritten(x, 1, 0);
        dueWritten(x, 2, 0);
        dueWritten(x, 3, 5);
        x.setLimit(20);
        due("at 20", x.ifWritten(3), 0);
        x.setLimit(19);
        due("at 19", x.ifWritten(3), 4);
        x.power(false);
        due("off", x.ifWritten(3), -1);
        dueThrow("64 while off", () -> x.ifWritten(64), INDEX);
        x.moveStick(false);
        x.power(true);
        due("out", x.ifWritten(3), 4);
    }

    private static void ifDestaged() {
        GatheringCache x = cache();
        due("nothing", x.ifDestaged(), 0);
        x.write(0, 1);
        due("one", x.ifDestaged(), 4);
        x.write(1, 1);
        due("two", x.ifDestaged(), 5);
        x.write(2, 1);
        due("three", x.ifDestaged(), 5);
        x.write(63, 1);
        due("two stripes", x.ifDestaged(), 9);
        due("it changes nothing", x.dirty(), 4);
        x.destageAll();
        due("the same by destageAll", x.count(0) + x.count(1), 9);
        x.write(0, 2);
        x.power(false);
        due("off", x.ifDestaged(), -1);
        x.moveStick(false);
        due("off and out", x.ifDestaged(), -1);
        x.power(true);
        due("out", x.ifDestaged(), -1);
    }

    private static void ticksToLoss() {
        GatheringCache x = cache();
        due("no dirty lines", x.ticksToLoss(), -1);
        x.write(0, 1);
        due("on and in", x.ticksToLoss(), -1);
        x.power(false);
        due("off", x.ticksToLoss(), 100);
        x.pass(30);
        due("off later", x.ticksToLoss(), 70);
        x.moveStick(false);
        due("off and out", x.ticksToLoss(), 70);
        x.power(true);
        due("on and out", x.ticksToLoss(), 70);
        x.pass(69);
        due("one tick before", x.ticksToLoss(), 1);
        due("not lost yet", x.count(6), 0);
        x.pass(1);
        due("lost", x.count(6), 1);
        due("none to lose", x.ticksToLoss(), -1);

        x = cache();
        x.write(0, 1);
        x.destageAll();
        x.power(false);
        due("only clean lines", x.ticksToLoss(), -1);
    }

    // ---- promises 28 and 29

    private static void count() {
        GatheringCache x = cache();
        dueThrow("-1", () -> x.count(-1), ARGUMENT);
        dueThrow("8", () -> x.count(8), ARGUMENT);
        dueThrow("MAX", () -> x.count(Integer.MAX_VALUE), ARGUMENT);
        x.write(0, 1);
        x.write(1, 1);
        x.read(0);
        x.read(2);
        x.destage(0);
        x.write(4, 1);
        x.setLimit(19);
        x.write(8, 1);
        x.write(9, 1);
        x.write(10, 1);
        x.power(false);
        x.pass(20);
        dueCounts(x, 2 + 1 + 6, 3 + 6, 3, 3, 1, 1, 1, 1);
        x.undo();
        dueCounts(x, 9, 9, 3, 3, 1, 1, 0, 1);
    }

    private static void blocksPerStripe() {
        GatheringCache x = cache();
        due("none", x.blocksPerStripe() == 0.0f, true);
        x.setLimit(19);
        x.write(0, 1);
        x.setLimit(100);
        x.pass(99);
        due("a write through is no destaging", x.blocksPerStripe() == 0.0f, true);
        x.write(0, 1);
        x.destageAll();
        due("1 / 1", x.blocksPerStripe() == 1.0f, true);
        x.write(0, 1);
        x.write(1, 1);
        x.write(2, 1);
        x.write(3, 1);
        due("4 / 2", x.blocksPerStripe() == 2.0f, true);
        x.destage(0);
        due("5 / 3", x.blocksPerStripe() == 5.0f / 3.0f, true);
        x.destage(0);
        due("nothing destaged", x.blocksPerStripe() == 5.0f / 3.0f, true);
        x.write(0, 1);
        x.setLimit(10);
        x.power(false);
        x.power(true);
        due("destaged by power: 6 / 4", x.blocksPerStripe() == 1.5f, true);
        x.undo();
        due("undone", x.blocksPerStripe() == 5.0f / 3.0f, true);
    }

    // ---- promises 30 and 31

    private static void savedStates() {
        GatheringCache x = cache();
        x.power(true);
        due("a call that changes nothing", x.savedStates(), 1);
        x.setLimit(100);
        x.pass(1);
        x.read(0);
        x.destage(0);
        due("five", x.savedStates(), 5);
        x.destageAll();
        due("six", x.savedStates(), 6);
        x.write(0, 0);
        due("not seven", x.savedStates(), 6);
        x.undo();
        due("five again", x.savedStates(), 5);
        x.charge();
        x.appendText('p');
        due("queries and texts save nothing", x.savedStates(), 5);
        x.runText();
        due("runText saves", x.savedStates(), 6);
    }

    private static void textLength() {
        GatheringCache x = cache();
        due("empty", x.textLength(), 0);
        x.appendText('z');
        due("one", x.textLength(), 1);
        x.appendText(' ');
        due("two", x.textLength(), 2);
        x.clearText();
        due("cleared", x.textLength(), 0);
    }
}
