/** The sentences of promises 15 to 31 that name a boundary, a test each. */
public final class QuerySentencesTests extends Checks {
    public static void main(String[] args) {
        testSentences(QuerySentencesTests.class);
    }

    /** Loses the blocks' latest writes, and brings the battery back to the limit. */
    private static void lose(GatheringCache x, int... blocks) {
        write(x, blocks);
        x.power(false);
        x.pass(99);
        x.pass(1);
        x.power(true);
        x.pass(99);
    }

    // ---- all queries

    @Sentence("queries change nothing")
    static void queriesChangeNothing(GatheringCache x) {
        GatheringCache twin = cache();
        write(x, 0, 1, 16);
        write(twin, 0, 1, 16);
        String before = all(x);
        for (int i = 0; i < 5; i++) {
            due("all that is told stays", all(x).equals(before), true);
        }
        due("write", x.write(48, 1), twin.write(48, 1));
        due("all goes on as in a twin", all(x).equals(all(twin)), true);
    }

    // ---- promises 15 to 17

    @Sentence("15: Tells whether the power is on.")
    static void isOn(GatheringCache x) {
        due("at first", x.isOn(), true);
        x.power(false);
        due("off", x.isOn(), false);
        x.power(false);
        due("off already", x.isOn(), false);
        x.power(true);
        due("on", x.isOn(), true);
        x.power(true);
        due("on already", x.isOn(), true);
        x.power(false);
        x.undo();
        due("undone", x.isOn(), true);
    }

    @Sentence("16: Tells whether the stick is in.")
    static void isIn(GatheringCache x) {
        due("at first", x.isIn(), true);
        x.power(false);
        x.moveStick(true);
        due("in already", x.isIn(), true);
        x.moveStick(false);
        due("out", x.isIn(), false);
        x.moveStick(false);
        due("out already", x.isIn(), false);
        x.moveStick(true);
        due("in", x.isIn(), true);
        x.undo();
        due("undone", x.isIn(), false);
    }

    @Sentence("17: Returns the charge of the battery.")
    static void charge(GatheringCache x) {
        due("full", x.charge(), 100);
        x.power(false);
        x.pass(99);
        due("1", x.charge(), 1);
        x.pass(1);
        due("0", x.charge(), 0);
        x.undo();
        due("undone", x.charge(), 1);
    }

    // ---- promise 18

    @Sentence("18: set: 0 to 3; line: 0 to 2")
    static void eachLine(GatheringCache x) {
        for (int line = 0; line < 3; line++) {
            write(x, 16 * line, 16 * line + 4, 16 * line + 8, 16 * line + 12);
        }
        for (int set = 0; set < 4; set++) {
            for (int line = 0; line < 3; line++) {
                int block = 16 * line + 4 * set;
                int number = 4 * line + set + 1;
                dueLine(x, set, line, block, 100 + block, number, number, 1);
            }
        }
    }

    @Sentence("18: part: 0: the block that it holds; [..] 4: 1 if it is dirty, 0 if it is clean")
    static void eachPart(GatheringCache x) {
        x.write(0, 999);
        x.read(0);
        dueLine(x, 0, 0, 0, 999, 1, 2, 1);
        x.destage(0);
        dueLine(x, 0, 0, 0, 999, 1, 2, 0);
    }

    @Sentence("18: NONE if the line is empty")
    static void emptyLine(GatheringCache x) {
        dueEmpty(x, 3, 2);
        write(x, 0);
        dueEmpty(x, 0, 1);
        lose(x);
        dueEmpty(x, 0, 0);
        write(x, 4);
        takeOut(x);
        write(x, 4);
        due("a line outside", x.line(1, 0, 0), 4);
        putIn(x);
        dueEmpty(x, 1, 0);
    }

    @Sentence("18: Throws IndexOutOfBoundsException if there is no such set or line")
    static void lineThrowsForSetOrLine(GatheringCache x) {
        for (int none : new int[] {-1, 4, 12, Integer.MIN_VALUE, Integer.MAX_VALUE}) {
            dueRefused(x, "set " + none, () -> x.line(none, 0, 0), INDEX);
            dueRefused(x, "line " + none, () -> x.line(0, none, 0), INDEX);
        }
        dueRefused(x, "line 3", () -> x.line(0, 3, 0), INDEX);
        dueRefused(x, "line 3 of the last set", () -> x.line(3, 3, 0), INDEX);
        dueRefused(x, "line -1 of set 1", () -> x.line(1, -1, 0), INDEX);
    }

    @Sentence("18: Throws IllegalArgumentException if part is not 0 to 4")
    static void lineThrowsForPart(GatheringCache x) {
        write(x, 0);
        for (int part : new int[] {-1, 5, Integer.MIN_VALUE, Integer.MAX_VALUE}) {
            dueRefused(x, "part " + part, () -> x.line(0, 0, part), ARGUMENT);
            dueRefused(x, "part " + part + " of an empty line", () -> x.line(3, 2, part), ARGUMENT);
        }
    }

    // ---- promises 19 to 21

    @Sentence("19: Returns the number of dirty lines that hold blocks of a stripe.")
    static void dirtyOfStripe(GatheringCache x) {
        for (int lines = 0; lines <= 3; lines++) {
            due("stripe 15", x.dirtyOf(15), lines);
            write(x, 60 + lines);
        }
        due("the fourth block destages the others", x.dirtyOf(15), 1);
        due("the stripe in the same set", x.dirtyOf(11), 0);
        x.destage(15);
        due("clean lines are none", x.dirtyOf(15), 0);
    }

    @Sentence("19: stripe: 0 to 15; Throws IndexOutOfBoundsException if there is no such stripe")
    static void dirtyOfThrows(GatheringCache x) {
        write(x, 0, 63);
        due("0", x.dirtyOf(0), 1);
        due("15", x.dirtyOf(15), 1);
        for (int stripe : NO_STRIPES) {
            dueRefused(x, "dirtyOf(" + stripe + ")", () -> x.dirtyOf(stripe), INDEX);
        }
    }

    @Sentence("20: Returns the number of dirty lines.")
    static void dirtyFrom0To12(GatheringCache x) {
        for (int lines = 0; lines < 12; lines++) {
            due("dirty", x.dirty(), lines);
            write(x, lines % 4 * 4 + lines / 4);
        }
        due("all", x.dirty(), 12);
        x.destage(0);
        due("a set is clean", x.dirty(), 9);
        takeOut(x);
        due("outside", x.dirty(), 9);
        x.pass(99);
        x.pass(1);
        due("lost", x.dirty(), 0);
    }

    @Sentence("21: Returns the number of lines that are not empty.")
    static void usedFrom0To12(GatheringCache x) {
        for (int lines = 0; lines < 12; lines++) {
            due("used", x.used(), lines);
            write(x, lines % 4 * 4 + lines / 4);
        }
        due("all", x.used(), 12);
        write(x, 63);
        due("a line is taken again", x.used(), 12);
        x.destageAll();
        due("clean lines, too", x.used(), 12);
        takeOut(x);
        due("outside", x.used(), 12);
        x.pass(99);
        x.pass(1);
        due("emptied", x.used(), 0);
    }

    // ---- promises 22 to 24

    @Sentence("22: Returns the value of a block on the disks. (This is not counted as a disk read.)")
    static void onDiskIsNotCounted(GatheringCache x) {
        x.write(0, 7);
        due("not the line's value", x.onDisk(0), 0);
        x.destage(0);
        due("destaged", x.onDisk(0), 7);
        x.power(false);
        due("while off", x.onDisk(0), 7);
        dueCounts(x, 2, 2, 1, 0, 0, 0, 0, 1);
    }

    @Sentence("22: Throws IndexOutOfBoundsException if there is no such block")
    static void onDiskThrows(GatheringCache x) {
        for (int block : NO_BLOCKS) {
            dueRefused(x, "onDisk(" + block + ")", () -> x.onDisk(block), INDEX);
        }
    }

    @Sentence("23: Returns true if the block was never written")
    static void neverWrittenIsFound(GatheringCache x) {
        lose(x, 0);
        for (int block = 1; block < 64; block++) {
            due("isFound(" + block + ")", x.isFound(block), true);
        }
        takeOut(x);
        due("while out", x.isFound(63), true);
    }

    @Sentence("23: or if the stamp of the block on the disks [..] is that of its latest write")
    static void foundOnDisks(GatheringCache x) {
        write(x, 0);
        x.destage(0);
        takeOut(x);
        due("destaged, outside", x.isFound(0), true);
        write(x, 0);
        due("through", x.isFound(0), true);
        x.pass(99);
        x.pass(1);
        due("the lines are lost", x.isFound(0), true);
    }

    @Sentence("23: in a line of the stick while the stick is in")
    static void foundInLine(GatheringCache x) {
        write(x, 0);
        due("in", x.isFound(0), true);
        x.power(false);
        due("off", x.isFound(0), true);
        x.moveStick(false);
        due("out", x.isFound(0), false);
        x.power(true);
        due("on and out", x.isFound(0), false);
        putIn(x);
        due("in again", x.isFound(0), true);
    }

    @Sentence("23: the stamp [..] is that of its latest write")
    static void olderStampsAreNotFound(GatheringCache x) {
        write(x, 0);
        x.destage(0);
        lose(x, 0);
        due("an older write is on the disks", x.isFound(0), false);
        due("its value", x.onDisk(0), 100);
        write(x, 0);
        due("written again", x.isFound(0), true);
    }

    @Sentence("23: Throws IndexOutOfBoundsException if there is no such block")
    static void isFoundThrows(GatheringCache x) {
        for (int block : NO_BLOCKS) {
            dueRefused(x, "isFound(" + block + ")", () -> x.isFound(block), INDEX);
        }
    }

    @Sentence("24: Returns the number of blocks whose latest write is not found.")
    static void missingFrom0To64(GatheringCache x) {
        due("at first", x.missing(), 0);
        for (int block = 0; block < 64; block += 4) {
            lose(x, block, block + 1, block + 2);
            lose(x, block + 3);
            due("missing", x.missing(), block + 4);
        }
        write(x, 63);
        due("one is found again", x.missing(), 63);
        x.undo();
        due("undone", x.missing(), 64);
    }

    @Sentence("24: Returns the number of blocks whose latest write is not found.")
    static void missingWhileOut(GatheringCache x) {
        write(x, 0, 1, 63, 63);
        x.destage(0);
        due("in", x.missing(), 0);
        takeOut(x);
        due("out", x.missing(), 1);
        write(x, 63);
        due("written through", x.missing(), 0);
    }

    // ---- promises 25 to 27

    @Sentence("25: Tells what write() would return now; this does not depend on the value.")
    static void ifWrittenIsWhatWriteReturns(GatheringCache x) {
        write(x, 0, 16, 17);
        write(x, 4, 20, 36);
        write(x, 8, 9, 10);
        x.destage(1);
        for (int block = 0; block < 64; block++) {
            for (int value : new int[] {0, 999}) {
                int told = x.ifWritten(block);
                due("write(" + block + ", " + value + ")", x.write(block, value), told);
                x.undo();
            }
        }
    }

    @Sentence("25: Returns the number of disk reads and disk writes")
    static void ifWrittenReturnsOperations(GatheringCache x) {
        due("an empty line", x.ifWritten(63), 0);
        write(x, 0, 16, 32);
        due("a line that holds it", x.ifWritten(16), 0);
        due("one block destaged", x.ifWritten(48), 4);
        x.destage(0);
        due("a clean line", x.ifWritten(48), 0);
        write(x, 17);
        due("two blocks destaged", x.ifWritten(48), 5);
        write(x, 60, 61, 62);
        due("three blocks destaged", x.ifWritten(63), 5);
        x.setLimit(20);
        due("at 20", x.ifWritten(63), 5);
        x.setLimit(19);
        due("through at 19", x.ifWritten(63), 4);
        due("through at 19, a line holds it", x.ifWritten(60), 4);
        takeOut(x);
        due("through while out", x.ifWritten(0), 4);
    }

    @Sentence("25: NONE if the power is off")
    static void ifWrittenWhileOff(GatheringCache x) {
        x.power(false);
        due("off", x.ifWritten(0), NONE);
        x.moveStick(false);
        due("off and out", x.ifWritten(63), NONE);
    }

    @Sentence("25: Throws IndexOutOfBoundsException if there is no such block")
    static void ifWrittenThrows(GatheringCache x) {
        for (int block : NO_BLOCKS) {
            dueRefused(x, "ifWritten(" + block + ")", () -> x.ifWritten(block), INDEX);
        }
        x.power(false);
        dueRefused(x, "ifWritten(64) off", () -> x.ifWritten(64), INDEX);
    }

    @Sentence("26: Returns the number of disk reads and disk writes that destageAll() would take now")
    static void ifDestagedReturnsOperations(GatheringCache x) {
        due("an empty stick", x.ifDestaged(), 0);
        write(x, 0);
        due("one block", x.ifDestaged(), 2 + 2);
        write(x, 1);
        due("two blocks", x.ifDestaged(), 2 + 3);
        write(x, 2);
        due("three blocks", x.ifDestaged(), 1 + 4);
        write(x, 4, 20, 36);
        due("four stripes", x.ifDestaged(), 5 + 3 * 4);
        x.destageAll();
        dueCounts(x, 1 + 3 * 2, 4 + 3 * 2);
        due("clean lines only", x.ifDestaged(), 0);
        x.setLimit(1);
        due("at charge 1", x.ifDestaged(), 0);
    }

    @Sentence("26: Returns the number of disk reads and disk writes that destageAll() would take now")
    static void ifDestagedOfTwelveStripes(GatheringCache x) {
        for (int stripe = 4; stripe < 16; stripe++) {
            write(x, 4 * stripe);
        }
        due("twelve stripes", x.ifDestaged(), 12 * 4);
        due("twelve blocks", x.destageAll(), 12);
        dueCounts(x, 24, 24, 12, 0, 0, 0, 0, 12);
    }

    @Sentence("26: NONE if the power is off or the stick is out")
    static void ifDestagedWhileOffOrOut(GatheringCache x) {
        due("on and in", x.ifDestaged(), 0);
        x.power(false);
        due("off", x.ifDestaged(), NONE);
        x.moveStick(false);
        due("off and out", x.ifDestaged(), NONE);
        x.power(true);
        due("out", x.ifDestaged(), NONE);
    }

    @Sentence("27: Returns the number of ticks behind which dirty lines would be lost if nothing else happened")
    static void ticksToLossIsExact(GatheringCache unused) {
        for (int charge = 1; charge <= 99; charge++) {
            GatheringCache x = cache();
            write(x, 0);
            drainTo(x, charge);
            due("ticksToLoss", x.ticksToLoss(), charge);
            if (charge > 1) {
                x.pass(charge - 1);
            }
            due("one tick before", x.count(6), 0);
            x.pass(1);
            due("behind it", x.count(6), 1);
        }
    }

    @Sentence("27: Returns the number of ticks behind which dirty lines would be lost if nothing else happened")
    static void ticksToLossOff100AndOutside(GatheringCache x) {
        write(x, 0);
        x.power(false);
        due("off at 100", x.ticksToLoss(), 100);
        x.moveStick(false);
        due("off and out", x.ticksToLoss(), 100);
        x.power(true);
        due("on and out", x.ticksToLoss(), 100);
        x.setLimit(1);
        due("at 1", x.ticksToLoss(), 1);
    }

    @Sentence("27: NONE if there are no dirty lines")
    static void ticksToLossWithoutDirtyLines(GatheringCache x) {
        x.power(false);
        due("an empty stick", x.ticksToLoss(), NONE);
        x.power(true);
        write(x, 0);
        x.destage(0);
        x.power(false);
        due("clean lines", x.ticksToLoss(), NONE);
        x.power(true);
        write(x, 0);
        drainTo(x, 1);
        x.pass(1);
        due("lost lines", x.ticksToLoss(), NONE);
    }

    @Sentence("27: or if the power is on and the stick is in")
    static void ticksToLossWhileOnAndIn(GatheringCache x) {
        write(x, 0);
        due("on and in", x.ticksToLoss(), NONE);
        x.setLimit(1);
        due("at 1", x.ticksToLoss(), NONE);
    }

    // ---- promise 28

    @Sentence("28: Throws IllegalArgumentException if what is not 0 to 7")
    static void countThrows(GatheringCache x) {
        for (int what = 0; what <= 7; what++) {
            due("count(" + what + ")", x.count(what), 0);
        }
        for (int what : new int[] {-1, 8, 9, Integer.MIN_VALUE, Integer.MAX_VALUE}) {
            dueRefused(x, "count(" + what + ")", () -> x.count(what), ARGUMENT);
        }
    }

    @Sentence("28: 0: disk reads; 1: disk writes")
    static void countDiskOperations(GatheringCache x) {
        x.read(0);
        dueCounts(x, 1, 0);
        write(x, 0, 1, 2);
        dueCounts(x, 1, 0);
        write(x, 3);
        dueCounts(x, 1 + 1, 4);
        x.setLimit(19);
        write(x, 3);
        dueCounts(x, 1 + 1 + 2, 4 + 2);
    }

    @Sentence("28: 2: writes that were gathered; 3: writes that went through")
    static void countWrites(GatheringCache x) {
        x.setLimit(20);
        write(x, 0, 0, 16, 32, 48);
        due("gathered", x.count(2), 5);
        due("through", x.count(3), 0);
        x.setLimit(19);
        write(x, 0, 63);
        due("gathered", x.count(2), 5);
        due("through", x.count(3), 2);
    }

    @Sentence("28: 4: reads from lines; 5: reads from the disks")
    static void countReads(GatheringCache x) {
        write(x, 0);
        x.read(0);
        x.read(1);
        due("from lines", x.count(4), 1);
        due("from the disks", x.count(5), 1);
        takeOut(x);
        x.read(0);
        due("from lines", x.count(4), 1);
        due("from the disks", x.count(5), 2);
    }

    @Sentence("28: 6: lost lines")
    static void countLostLines(GatheringCache x) {
        lose(x, 0, 4, 63);
        due("three", x.count(6), 3);
        lose(x);
        due("no dirty line", x.count(6), 3);
        lose(x, 0);
        due("one more", x.count(6), 4);
        x.destageAll();
        write(x, 1);
        takeOut(x);
        write(x, 1);
        putIn(x);
        due("an outdated line is not lost", x.count(6), 4);
    }

    @Sentence("28: 7: stripes that were destaged with at least one dirty line")
    static void countDestagedStripes(GatheringCache x) {
        x.destage(0);
        x.destageAll();
        due("no dirty line", x.count(7), 0);
        write(x, 0, 1);
        x.destage(1);
        due("another stripe", x.count(7), 0);
        x.destage(0);
        due("destage", x.count(7), 1);
        write(x, 0, 4, 63);
        x.destageAll();
        due("destageAll", x.count(7), 4);
        write(x, 0, 16, 32, 48);
        due("a write that destages", x.count(7), 5);
        drainTo(x, 19);
        x.power(true);
        due("power", x.count(7), 8);
        x.write(0, 1);
        due("a write through is none", x.count(7), 8);
    }

    // ---- promises 29 to 31

    @Sentence("29: the number of blocks that were written on the disks by destaging, converted to float, divided by count(7)")
    static void blocksPerStripeIsFloat(GatheringCache x) {
        write(x, 0);
        x.destage(0);
        due("1 / 1", x.blocksPerStripe(), 1.0f);
        write(x, 0, 1, 2);
        x.destage(0);
        due("4 / 2", x.blocksPerStripe(), 2.0f);
        write(x, 0);
        x.destage(0);
        due("5 / 3", x.blocksPerStripe(), 5.0f / 3.0f);
        write(x, 60, 61, 62, 63);
        due("8 / 4, by a write", x.blocksPerStripe(), 2.0f);
        drainTo(x, 19);
        x.power(true);
        due("9 / 5, by power", x.blocksPerStripe(), 9.0f / 5.0f);
    }

    @Sentence("29: 0.0f if count(7) is 0")
    static void blocksPerStripeWithoutDestaging(GatheringCache x) {
        due("at first", x.blocksPerStripe(), 0.0f);
        x.destageAll();
        x.setLimit(19);
        write(x, 0);
        due("a write through is no destaging", x.blocksPerStripe(), 0.0f);
        due("it is not -0.0f", 1.0f / x.blocksPerStripe() > 0.0f, true);
    }

    @Sentence("30: Returns the number of saved states.")
    static void savedStatesFrom0To6(GatheringCache x) {
        due("at first", x.savedStates(), 0);
        for (int call = 1; call <= 8; call++) {
            x.pass(1);
            due("savedStates", x.savedStates(), Math.min(call, 6));
        }
        x.undo();
        due("behind undo", x.savedStates(), 5);
        x.pass(1);
        due("six again", x.savedStates(), 6);
    }

    @Sentence("31: Returns the length of the text.")
    static void textLengthFrom0To80(GatheringCache x) {
        for (int length = 0; length < 80; length++) {
            due("textLength", x.textLength(), length);
            x.appendText('z');
        }
        due("full", x.textLength(), 80);
        dueThrow("appendText", () -> x.appendText('z'), STATE);
        due("full", x.textLength(), 80);
        x.clearText();
        due("cleared", x.textLength(), 0);
    }
}
