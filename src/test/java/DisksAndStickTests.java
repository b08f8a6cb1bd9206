/** The sentences of the head and of sections 1 and 2 that name a boundary, a test each. */
public final class DisksAndStickTests extends Checks {
    public static void main(String[] args) {
        testSentences(DisksAndStickTests.class);
    }

    // ---- the head

    private static GatheringCache after511Writes() {
        GatheringCache x = cache();
        for (int call = 1; call <= 511; call++) {
            x.write(0, call);
        }
        return x;
    }

    @Sentence("An object is used for at most 512 calls after it has been made")
    static void call512(GatheringCache unused) {
        due("count(2)", after511Writes().count(2), 511);
        due("line(0, 0, 1)", after511Writes().line(0, 0, 1), 511);
        due("line(0, 0, 2)", after511Writes().line(0, 0, 2), 511);
        due("line(0, 0, 3)", after511Writes().line(0, 0, 3), 511);
        due("savedStates", after511Writes().savedStates(), 6);
        due("write", after511Writes().write(1, 1), 0);
        due("destage", after511Writes().destage(0), 1);
        due("undo", after511Writes().undo(), 5);
        dueThrow("write(64, 0)", () -> after511Writes().write(64, 0), INDEX);
    }

    @Sentence("An object is used for at most 512 calls after it has been made")
    static void mostWritesIn512Calls(GatheringCache x) {
        String text = "w0,1;".repeat(15) + "w0,2";
        type(x, text);
        // clearText and 79 times appendText came before: 431 calls are left for runText, one to ask.
        for (int call = 0; call < 431; call++) {
            x.runText();
        }
        due("count(2)", x.count(2), 431 * 16);
        due("the stamp", x.line(0, 0, 2), 431 * 16);
        due("the use number", x.line(0, 0, 3), 431 * 16);
    }

    // ---- section 1

    @Sentence("There are 16 stripes, numbered 0 to 15")
    static void stripesAre0To15(GatheringCache x) {
        due("destage(0)", x.destage(0), 0);
        due("destage(15)", x.destage(15), 0);
        due("dirtyOf(0)", x.dirtyOf(0), 0);
        due("dirtyOf(15)", x.dirtyOf(15), 0);
        dueRefused(x, "destage(-1)", () -> x.destage(-1), INDEX);
        dueRefused(x, "destage(16)", () -> x.destage(16), INDEX);
        dueRefused(x, "dirtyOf(-1)", () -> x.dirtyOf(-1), INDEX);
        dueRefused(x, "dirtyOf(16)", () -> x.dirtyOf(16), INDEX);
    }

    @Sentence("with four blocks each")
    static void stripesHaveFourBlocks(GatheringCache unused) {
        for (int stripe = 0; stripe < 16; stripe++) {
            int blocks = 0;
            for (int block = 0; block < 64; block++) {
                GatheringCache x = cache();
                x.write(block, 1);
                blocks += x.destage(stripe);
            }
            due("blocks of stripe " + stripe, blocks, 4);
        }
    }

    @Sentence("The blocks are numbered 0 to 63")
    static void blocksAre0To63(GatheringCache x) {
        for (int block : new int[] {0, 63}) {
            due("write", x.write(block, 1), 0);
            due("read", x.read(block), 1);
            due("onDisk", x.onDisk(block), 0);
            due("isFound", x.isFound(block), true);
            due("ifWritten", x.ifWritten(block), 0);
        }
        for (int block : new int[] {-1, 64}) {
            dueRefused(x, "write", () -> x.write(block, 1), INDEX);
            dueRefused(x, "read", () -> x.read(block), INDEX);
            dueRefused(x, "onDisk", () -> x.onDisk(block), INDEX);
            dueRefused(x, "isFound", () -> x.isFound(block), INDEX);
            dueRefused(x, "ifWritten", () -> x.ifWritten(block), INDEX);
        }
    }

    @Sentence("the block b is in the stripe b / 4")
    static void blockIsInStripe(GatheringCache unused) {
        for (int block = 0; block < 64; block++) {
            GatheringCache x = cache();
            x.write(block, 1);
            for (int stripe = 0; stripe < 16; stripe++) {
                due(block + ", dirtyOf(" + stripe + ")", x.dirtyOf(stripe), block / 4 == stripe ? 1 : 0);
            }
        }
    }

    @Sentence("On the disks each block has a value from 0 to 999")
    static void diskValues(GatheringCache x) {
        takeOut(x);
        x.write(0, 999);
        x.write(63, 999);
        due("999 on block 0", x.onDisk(0), 999);
        due("999 on block 63", x.onDisk(63), 999);
        x.write(0, 0);
        due("0 on block 0", x.onDisk(0), 0);
        due("block 63 stays", x.onDisk(63), 999);
    }

    @Sentence("a value from 0 to 999 and a stamp, both 0 at first")
    static void disksAtFirst(GatheringCache x) {
        for (int block = 0; block < 64; block++) {
            due("onDisk(" + block + ")", x.onDisk(block), 0);
            due("read(" + block + ")", x.read(block), 0);
        }
        write(x, 0);
        takeOut(x);
        x.power(false);
        due("the stamp 1 is not less than that on the disks", x.moveStick(true), 0);
    }

    @Sentence("To write k blocks of one stripe together [..] takes k + 1 disk writes [..] and the following disk reads: 2 for one block")
    static void oneBlock(GatheringCache x) {
        write(x, 60);
        x.destage(15);
        dueCounts(x, 2, 2);
    }

    @Sentence("To write k blocks of one stripe together [..] takes k + 1 disk writes [..] and the following disk reads: [..] 2 for two blocks")
    static void twoBlocks(GatheringCache x) {
        write(x, 60, 63);
        x.destage(15);
        dueCounts(x, 2, 3);
    }

    @Sentence("To write k blocks of one stripe together [..] takes k + 1 disk writes [..] and the following disk reads: [..] 1 for three blocks")
    static void threeBlocks(GatheringCache x) {
        write(x, 60, 63, 61);
        x.destage(15);
        dueCounts(x, 1, 4);
    }

    // Four blocks are never written together: the stripe's set has three lines only.
    @Sentence("k from 1 to 4")
    static void fourBlocksNeverTogether(GatheringCache x) {
        write(x, 60, 61, 62);
        due("the fourth destages the three", x.write(63, 1), 1 + 4);
        due("the fourth is alone", x.destage(15), 1);
        dueCounts(x, 1 + 2, 4 + 2);
    }

    @Sentence("To read a block from the disks takes 1 disk read.")
    static void readTakesOneDiskRead(GatheringCache x) {
        x.read(63);
        dueCounts(x, 1, 0);
        takeOut(x);
        x.read(0);
        dueCounts(x, 2, 0);
    }

    // ---- section 2

    @Sentence("The stick has four sets, numbered 0 to 3, with three lines each, numbered 0 to 2.")
    static void setsAndLines(GatheringCache x) {
        for (int block = 0; block < 64; block++) {
            x.write(block, 1);
        }
        for (int set = 0; set < 4; set++) {
            for (int line = 0; line < 3; line++) {
                due("a block is there", x.line(set, line, 0) >= 0, true);
            }
        }
        due("used", x.used(), 12);
        dueRefused(x, "set -1", () -> x.line(-1, 0, 0), INDEX);
        dueRefused(x, "set 4", () -> x.line(4, 0, 0), INDEX);
        dueRefused(x, "line -1", () -> x.line(1, -1, 0), INDEX);
        dueRefused(x, "line 3", () -> x.line(1, 3, 0), INDEX);
    }

    @Sentence("A line is empty (at first)")
    static void linesAreEmptyAtFirst(GatheringCache x) {
        due("used", x.used(), 0);
        for (int set = 0; set < 4; set++) {
            for (int line = 0; line < 3; line++) {
                dueEmpty(x, set, line);
            }
        }
    }

    @Sentence("or holds a block: its number, a value, a stamp and a use number; it is dirty or clean")
    static void lineHoldsBlock(GatheringCache x) {
        x.write(0, 0);
        dueLine(x, 0, 0, 0, 0, 1, 1, 1);
        x.write(63, 999);
        dueLine(x, 3, 0, 63, 999, 2, 2, 1);
        x.destageAll();
        dueLine(x, 0, 0, 0, 0, 1, 1, 0);
        dueLine(x, 3, 0, 63, 999, 2, 2, 0);
    }

    @Sentence("A block of the stripe s can be only in the set s modulo 4")
    static void setIsStripeModulo4(GatheringCache unused) {
        for (int block = 0; block < 64; block++) {
            GatheringCache x = cache();
            x.write(block, 1);
            for (int set = 0; set < 4; set++) {
                due("set " + set + " holds " + block, x.line(set, 0, 0), block / 4 % 4 == set ? block : NONE);
            }
        }
    }

    @Sentence("at most one line holds it")
    static void oneLineHoldsBlock(GatheringCache x) {
        write(x, 0, 0);
        due("twice gathered", x.used(), 1);
        x.destage(0);
        write(x, 0);
        due("gathered while clean", x.used(), 1);
        x.read(0);
        due("read", x.used(), 1);
        x.setLimit(19);
        write(x, 0);
        due("through", x.used(), 1);
        x.setLimit(100);
        x.pass(1);
        write(x, 16, 32, 16, 32, 0);
        dueBlocks(x, 0, 0, 16, 32);
    }

    @Sentence("The stick is in or out; at first it is in.")
    static void stickIsInAtFirst(GatheringCache x) {
        due("isIn", x.isIn(), true);
        due("a write is gathered", x.write(0, 1), 0);
    }

    @Sentence("Its battery has a limit from 1 to 100")
    static void limits(GatheringCache x) {
        due("setLimit(1)", x.setLimit(1), 1);
        due("setLimit(100)", x.setLimit(100), 1);
        due("pass(99)", x.pass(99), 100);
        dueRefused(x, "setLimit(0)", () -> x.setLimit(0), ARGUMENT);
        dueRefused(x, "setLimit(101)", () -> x.setLimit(101), ARGUMENT);
    }

    @Sentence("a limit [..], at first 100")
    static void limitAtFirst(GatheringCache x) {
        x.power(false);
        x.pass(1);
        x.power(true);
        due("not above 100", x.pass(1), 100);
        due("not above 100", x.pass(99), 100);
    }

    @Sentence("a charge from 0 to the limit, at first 100")
    static void chargeAtFirst(GatheringCache x) {
        due("charge", x.charge(), 100);
        x.setLimit(3);
        due("not above the limit", x.pass(99), 3);
        x.power(false);
        due("not below 0", x.pass(99), 0);
        due("not below 0", x.pass(1), 0);
    }

    @Sentence("The power is on or off, at first on.")
    static void powerIsOnAtFirst(GatheringCache x) {
        due("isOn", x.isOn(), true);
        due("a write is possible", x.write(0, 1), 0);
    }
}
