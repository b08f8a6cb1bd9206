/** The sentences of sections 3 and 4 that name a boundary, a test each. */
public final class WritesAndDestagingTests extends Checks {
    public static void main(String[] args) {
        testSentences(WritesAndDestagingTests.class);
    }

    // ---- section 3, which writes are gathered

    @Sentence("Writes are only possible while the power is on.")
    static void writeNeedsPower(GatheringCache x) {
        x.power(false);
        dueRefused(x, "off", () -> x.write(0, 1), STATE);
        x.moveStick(false);
        dueRefused(x, "off and out", () -> x.write(0, 1), STATE);
        x.power(true);
        due("on and out", x.write(0, 1), 4);
        putIn(x);
        x.power(true);
        due("on and in", x.write(0, 1), 0);
    }

    @Sentence("Stamps are given in ascending order, from 1 on")
    static void firstStampIs1(GatheringCache x) {
        write(x, 63, 5, 63);
        due("the second stamp", x.line(1, 0, 2), 2);
        due("the third stamp", x.line(3, 0, 2), 3);
        x = cache();
        write(x, 63);
        due("the first stamp", x.line(3, 0, 2), 1);
    }

    @Sentence("each write gets the next stamp")
    static void everyWriteGetsStamp(GatheringCache x) {
        takeOut(x);
        write(x, 0, 1);
        putIn(x);
        x.power(true);
        dueThrow("a refused write", () -> x.write(64, 1), INDEX);
        dueThrow("a refused write", () -> x.write(0, 1000), ARGUMENT);
        x.read(0);
        write(x, 0);
        due("two that went through came before", x.line(0, 0, 2), 3);
    }

    @Sentence("A write of a block is gathered if the stick is in and the charge is at least 20")
    static void gatheredAtCharge20(GatheringCache x) {
        drainTo(x, 20);
        x.power(true);
        due("charge", x.charge(), 20);
        due("ifWritten at 20", x.ifWritten(0), 0);
        due("write at 20", x.write(0, 1), 0);
        due("gathered", x.count(2), 1);
        due("through", x.count(3), 0);
    }

    @Sentence("otherwise it goes through")
    static void throughAtCharge19(GatheringCache x) {
        drainTo(x, 19);
        x.power(true);
        due("charge", x.charge(), 19);
        due("ifWritten at 19", x.ifWritten(0), 4);
        due("write at 19", x.write(0, 1), 4);
        due("gathered", x.count(2), 0);
        due("through", x.count(3), 1);
        x.pass(1);
        due("write at 21", x.write(0, 2), 0);
    }

    @Sentence("otherwise it goes through")
    static void throughAtCharge0(GatheringCache x) {
        x.power(false);
        x.pass(99);
        x.pass(1);
        x.power(true);
        due("charge", x.charge(), 0);
        due("write at 0", x.write(0, 1), 4);
    }

    @Sentence("otherwise it goes through")
    static void throughWhileOut(GatheringCache x) {
        takeOut(x);
        due("charge", x.charge(), 100);
        due("ifWritten while out", x.ifWritten(0), 4);
        due("write while out", x.write(0, 1), 4);
        due("through", x.count(3), 1);
    }

    // ---- section 3, gathered

    @Sentence("if a line holds the block, it gets the value and the stamp, and it is dirty")
    static void heldBlockStaysInItsLine(GatheringCache x) {
        write(x, 0, 16, 32);
        due("a dirty line in a full set", x.write(16, 7), 0);
        dueLine(x, 0, 1, 16, 7, 4, 4, 1);
        due("nothing is destaged", x.dirty(), 3);
        x.destage(4);
        due("a clean line in a full set", x.write(16, 8), 0);
        dueLine(x, 0, 1, 16, 8, 5, 5, 1);
        dueCounts(x, 2, 2, 5, 0, 0, 0, 0, 1);
    }

    @Sentence("if a line holds the block, it gets the value and the stamp, and it is dirty")
    static void heldBlockBeforeEmptyLine(GatheringCache x) {
        write(x, 0, 16);
        takeOut(x);
        write(x, 0);
        putIn(x);
        dueBlocks(x, 0, NONE, 16, NONE);
        x.power(true);
        write(x, 16);
        dueBlocks(x, 0, NONE, 16, NONE);
    }

    @Sentence("the empty line with the lowest number")
    static void emptyLinesByNumber(GatheringCache x) {
        write(x, 4);
        dueBlocks(x, 1, 4, NONE, NONE);
        write(x, 20);
        dueBlocks(x, 1, 4, 20, NONE);
        write(x, 36);
        dueBlocks(x, 1, 4, 20, 36);
    }

    @Sentence("the empty line with the lowest number")
    static void emptyLinesAroundFullOne(GatheringCache x) {
        write(x, 0, 16, 32);
        takeOut(x);
        write(x, 0, 32);
        putIn(x);
        x.power(true);
        dueBlocks(x, 0, NONE, 16, NONE);
        write(x, 48);
        dueBlocks(x, 0, 48, 16, NONE);
        write(x, 32);
        dueBlocks(x, 0, 48, 16, 32);
    }

    @Sentence("if there is none, the clean line")
    static void emptyLineBeforeCleanOne(GatheringCache x) {
        write(x, 0);
        x.destageAll();
        write(x, 16);
        dueBlocks(x, 0, 0, 16, NONE);
        x.destageAll();
        write(x, 32);
        dueBlocks(x, 0, 0, 16, 32);
    }

    @Sentence("the empty line with the lowest number")
    static void emptiedLinesByNumberNotByUse(GatheringCache x) {
        write(x, 0, 16, 32);
        x.read(16);
        x.read(0);
        takeOut(x);
        write(x, 0, 16, 32);
        putIn(x);
        x.power(true);
        due("used", x.used(), 0);
        write(x, 48);
        dueBlocks(x, 0, 48, NONE, NONE);
        write(x, 49);
        dueBlocks(x, 0, 48, 49, NONE);
    }

    @Sentence("if there is none, the clean line")
    static void emptiedLineBeforeCleanOneOfLessUse(GatheringCache x) {
        write(x, 0, 16, 32);
        x.destageAll();
        takeOut(x);
        write(x, 32);
        putIn(x);
        x.power(true);
        dueBlocks(x, 0, 0, 16, NONE);
        write(x, 48);
        dueBlocks(x, 0, 0, 16, 48);
    }

    @Sentence("the clean line with the least use number")
    static void cleanLineWithLeastUse(GatheringCache unused) {
        int[][] orders = {{0, 16, 32}, {0, 32, 16}, {16, 0, 32}, {16, 32, 0}, {32, 0, 16}, {32, 16, 0}};
        for (int[] order : orders) {
            GatheringCache x = cache();
            write(x, 0, 16, 32);
            x.destageAll();
            for (int block : order) {
                x.read(block);
            }
            write(x, 48);
            due("the line of block " + order[0], x.line(0, order[0] / 16, 0), 48);
            due("used", x.used(), 3);
        }
    }

    @Sentence("the clean line with the least use number")
    static void onlyCleanLineIsTaken(GatheringCache unused) {
        for (int clean = 0; clean < 3; clean++) {
            GatheringCache x = cache();
            write(x, 0, 16, 32);
            x.destage(clean * 4);
            x.read(clean * 16);
            due("no destaging", x.write(48, 1), 0);
            due("the line", x.line(0, clean, 0), 48);
            due("dirty", x.dirty(), 3);
        }
    }

    @Sentence("if there is none either, a stripe is destaged first (the one with the most dirty lines in this set")
    static void stripeWithMostDirtyLines(GatheringCache unused) {
        int[][] orders = {{0, 16, 17}, {16, 0, 17}, {16, 17, 0}};
        for (int[] order : orders) {
            GatheringCache x = cache();
            write(x, order);
            due("two blocks together", x.write(48, 1), 2 + 3);
            due("stripe 0", x.dirtyOf(0), 1);
            due("stripe 4", x.dirtyOf(4), 0);
            due("stripe 12", x.dirtyOf(12), 1);
        }
    }

    @Sentence("the one with the most dirty lines in this set")
    static void otherSetsCountForNothing(GatheringCache x) {
        write(x, 4, 5, 6);
        write(x, 0, 16, 32);
        due("one block", x.write(48, 1), 4);
        due("stripe 1 in another set", x.dirtyOf(1), 3);
        due("stripe 0", x.dirtyOf(0), 0);
    }

    @Sentence("the one with the most dirty lines in this set")
    static void allLinesOfOneStripe(GatheringCache x) {
        write(x, 60, 61, 62);
        due("three blocks", x.write(12, 1), 1 + 4);
        due("stripe 15", x.dirtyOf(15), 0);
        dueBlocks(x, 3, 12, 61, 62);
    }

    @Sentence("of several the one with the lowest number")
    static void lowestOfSeveralStripes(GatheringCache unused) {
        int[][] orders = {{12, 44, 60}, {12, 60, 44}, {44, 12, 60}, {44, 60, 12}, {60, 12, 44}, {60, 44, 12}};
        for (int[] order : orders) {
            GatheringCache x = cache();
            write(x, order);
            write(x, 28);
            due("stripe 3", x.dirtyOf(3), 0);
            due("stripe 7", x.dirtyOf(7), 1);
            due("stripe 11", x.dirtyOf(11), 1);
            due("stripe 15", x.dirtyOf(15), 1);
        }
    }

    @Sentence("and then the clean line with the least use number is taken")
    static void lineTakenBehindDestaging(GatheringCache x) {
        write(x, 0, 16, 17);
        x.read(16);
        write(x, 48);
        dueBlocks(x, 0, 0, 16, 48);
        dueLine(x, 0, 1, 16, 116, 2, 4, 0);
        x = cache();
        write(x, 0, 1, 2);
        x.read(0);
        x.read(1);
        write(x, 3);
        dueBlocks(x, 0, 0, 1, 3);
    }

    @Sentence("The line that is taken holds the block with the value and the stamp then, and it is dirty.")
    static void takenLine(GatheringCache x) {
        write(x, 0, 16, 32);
        x.write(48, 999);
        dueLine(x, 0, 0, 48, 999, 4, 4, 1);
        x.destageAll();
        x.write(0, 0);
        dueLine(x, 0, 1, 0, 0, 5, 5, 1);
    }

    // ---- section 3, through

    @Sentence("the block is written on the disks (one block of its stripe) with the value and the stamp")
    static void throughWritesOneBlock(GatheringCache x) {
        write(x, 0, 1);
        x.setLimit(19);
        due("one block", x.write(2, 7), 4);
        dueCounts(x, 2, 2, 2, 1, 0, 0, 0, 0);
        due("onDisk(2)", x.onDisk(2), 7);
        due("isFound(2)", x.isFound(2), true);
        due("the stripe's dirty lines stay", x.dirtyOf(0), 2);
        due("onDisk(0)", x.onDisk(0), 0);
    }

    @Sentence("If the stick is in and a line holds the block, the line gets the value and the stamp, too, and it is clean.")
    static void throughCleansLine(GatheringCache x) {
        write(x, 0, 1);
        x.setLimit(19);
        x.write(1, 7);
        dueLine(x, 0, 1, 1, 7, 3, 3, 0);
        due("dirtyOf", x.dirtyOf(0), 1);
        x.write(1, 8);
        dueLine(x, 0, 1, 1, 8, 4, 4, 0);
        due("only the other one is destaged", x.destage(0), 1);
        due("onDisk(1)", x.onDisk(1), 8);
    }

    @Sentence("If the stick is in and a line holds the block, the line gets the value and the stamp, too")
    static void throughTakesNoLine(GatheringCache x) {
        x.setLimit(19);
        write(x, 0);
        due("used", x.used(), 0);
        x.write(0, 1);
        due("used", x.used(), 0);
    }

    @Sentence("If the stick is in and a line holds the block, the line gets the value and the stamp, too")
    static void throughWhileOutLeavesLine(GatheringCache x) {
        write(x, 0);
        takeOut(x);
        x.write(0, 7);
        dueLine(x, 0, 0, 0, 100, 1, 1, 1);
        due("dirty", x.dirty(), 1);
    }

    // ---- section 3, reads and use numbers

    @Sentence("Reads are only possible while the power is on.")
    static void readNeedsPower(GatheringCache x) {
        write(x, 0);
        x.power(false);
        dueRefused(x, "off", () -> x.read(0), STATE);
        x.moveStick(false);
        dueRefused(x, "off and out", () -> x.read(0), STATE);
        x.power(true);
        due("on and out", x.read(0), 0);
        putIn(x);
        x.power(true);
        due("on and in", x.read(0), 100);
    }

    @Sentence("If the stick is in and a line holds the block, its value is read from the line.")
    static void readFromLine(GatheringCache x) {
        x.write(0, 7);
        due("dirty", x.read(0), 7);
        x.setLimit(1);
        due("at charge 1", x.read(0), 7);
        x.destage(0);
        due("clean", x.read(0), 7);
        dueCounts(x, 2, 2, 1, 0, 3, 0, 0, 1);
    }

    @Sentence("Otherwise it is read from the disks.")
    static void readFromDisks(GatheringCache x) {
        due("no line holds it", x.read(0), 0);
        due("no line takes it", x.used(), 0);
        x.write(0, 7);
        takeOut(x);
        due("the stick is out", x.read(0), 0);
        dueCounts(x, 2, 0, 1, 0, 0, 2, 0, 0);
    }

    @Sentence("Use numbers are given in ascending order, from 1 on")
    static void firstUseIs1(GatheringCache x) {
        write(x, 63);
        due("the first", x.line(3, 0, 3), 1);
        x.read(63);
        due("the second", x.line(3, 0, 3), 2);
        write(x, 0);
        due("the third", x.line(0, 0, 3), 3);
    }

    @Sentence("each line that gets a value by a write, or from which a value is read, gets the next use number")
    static void whatGivesNoUse(GatheringCache x) {
        write(x, 0);
        x.read(1);
        x.destageAll();
        x.setLimit(19);
        write(x, 1);
        takeOut(x);
        write(x, 2);
        x.read(0);
        putIn(x);
        dueThrow("read while off", () -> x.read(0), STATE);
        x.power(true);
        due("none so far", x.line(0, 0, 3), 1);
        x.read(0);
        due("the next is 2", x.line(0, 0, 3), 2);
        x.write(0, 5);
        due("a write through gives one", x.line(0, 0, 3), 3);
    }

    // ---- section 4

    @Sentence("all dirty lines that hold blocks of this stripe are written on the disks together")
    static void onlyDirtyLinesOfThisStripe(GatheringCache x) {
        write(x, 0, 1);
        x.destage(0);
        write(x, 2, 1, 17);
        due("two of three lines", x.destage(0), 2);
        dueCounts(x, 4, 6, 5, 0, 0, 0, 0, 2);
        due("the stripe in the same set", x.dirtyOf(4), 1);
        due("its block", x.onDisk(17), 0);
    }

    @Sentence("with their values and stamps")
    static void destagedWithValuesAndStamps(GatheringCache x) {
        x.write(5, 3);
        x.write(6, 999);
        x.destage(1);
        due("onDisk(5)", x.onDisk(5), 3);
        due("onDisk(6)", x.onDisk(6), 999);
        takeOut(x);
        due("the stamp of 5", x.isFound(5), true);
        due("the stamp of 6", x.isFound(6), true);
    }

    @Sentence("if there is at least one")
    static void noDirtyLineNoOperation(GatheringCache x) {
        due("an empty stick", x.destage(0), 0);
        due("an empty stick", x.destageAll(), 0);
        dueCounts(x, 0, 0, 0, 0, 0, 0, 0, 0);
        write(x, 0);
        x.destage(0);
        due("clean lines only", x.destage(0), 0);
        due("another stripe's lines only", x.destage(1), 0);
        dueCounts(x, 2, 2, 1, 0, 0, 0, 0, 1);
        due("blocksPerStripe", x.blocksPerStripe(), 1.0f);
    }

    @Sentence("they are clean then")
    static void cleanBehindDestaging(GatheringCache x) {
        x.write(5, 3);
        x.destage(1);
        dueLine(x, 1, 0, 5, 3, 1, 1, 0);
        due("dirty", x.dirty(), 0);
        due("used", x.used(), 1);
    }
}
