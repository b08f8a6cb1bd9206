/** The sentences of promises 1 to 14 that name a boundary, a test each. */
public final class PromiseSentencesTests extends Checks {
    public static void main(String[] args) {
        testSentences(PromiseSentencesTests.class);
    }

    /** A cache whose twelve lines hold the blocks 0 to 2, 4 to 6, 8 to 10 and 12 to 14, all dirty. */
    private static GatheringCache fullCache() {
        GatheringCache x = cache();
        for (int stripe = 0; stripe < 4; stripe++) {
            write(x, 4 * stripe, 4 * stripe + 1, 4 * stripe + 2);
        }
        return x;
    }

    // ---- promise 1

    @Sentence("1: Creates a cache with empty lines, the stick in, the battery full and the power on.")
    static void newCache(GatheringCache x) {
        due("used", x.used(), 0);
        due("isIn", x.isIn(), true);
        due("charge", x.charge(), 100);
        due("isOn", x.isOn(), true);
    }

    @Sentence("1: Creates a cache")
    static void cachesShareNothing(GatheringCache x) {
        String before = all(x);
        GatheringCache other = fullCache();
        other.setLimit(50);
        other.power(false);
        type(other, "p");
        due("the first is as it was", all(x).equals(before), true);
        due("a third is as the first", all(cache()).equals(before), true);
    }

    // ---- promise 2

    @Sentence("2: block: 0 to 63")
    static void writeBlocks(GatheringCache x) {
        x.setLimit(1);
        for (int block = 0; block < 64; block++) {
            due("write(" + block + ")", x.write(block, block), 4);
            due("onDisk(" + block + ")", x.onDisk(block), block);
        }
    }

    @Sentence("2: value: 0 to 999")
    static void writeValues(GatheringCache x) {
        for (int value : new int[] {0, 1, 998, 999}) {
            due("write", x.write(0, value), 0);
            due("the value", x.line(0, 0, 1), value);
        }
    }

    @Sentence("2: Returns the number of disk reads and disk writes that it takes.")
    static void writeReturnsOperations(GatheringCache x) {
        due("gathered", x.write(0, 1), 0);
        write(x, 16, 32);
        due("with one block destaged", x.write(48, 1), 2 + 2);
        write(x, 49);
        due("with two blocks destaged", x.write(50, 1), 2 + 3);
        x = cache();
        write(x, 0, 1, 2);
        due("with three blocks destaged", x.write(3, 1), 1 + 4);
        x.setLimit(19);
        due("through", x.write(3, 2), 2 + 2);
        due("through, no line holds it", x.write(63, 2), 2 + 2);
    }

    @Sentence("2: Throws IndexOutOfBoundsException if there is no such block")
    static void writeThrowsForBlock(GatheringCache x) {
        for (int block : NO_BLOCKS) {
            dueRefused(x, "write(" + block + ", 0)", () -> x.write(block, 0), INDEX);
        }
    }

    @Sentence("2: Throws IllegalArgumentException if the value is out of range")
    static void writeThrowsForValue(GatheringCache x) {
        for (int value : new int[] {-1, 1000, -999, Integer.MIN_VALUE, Integer.MAX_VALUE}) {
            dueRefused(x, "write(0, " + value + ")", () -> x.write(0, value), ARGUMENT);
        }
    }

    @Sentence("2: Throws IllegalStateException if the power is off")
    static void writeThrowsWhileOff(GatheringCache x) {
        x.power(false);
        dueRefused(x, "write(0, 0)", () -> x.write(0, 0), STATE);
        dueRefused(x, "write(63, 999)", () -> x.write(63, 999), STATE);
    }

    // ---- promise 3

    @Sentence("3: block: 0 to 63")
    static void readBlocks(GatheringCache x) {
        for (int block = 0; block < 64; block++) {
            x.write(block, block);
            due("read(" + block + ")", x.read(block), block);
        }
    }

    @Sentence("3: Returns its value.")
    static void readReturnsValue(GatheringCache x) {
        due("never written", x.read(63), 0);
        x.write(63, 999);
        due("from a line", x.read(63), 999);
        x.write(63, 0);
        due("from a line", x.read(63), 0);
        x.write(63, 999);
        x.destageAll();
        takeOut(x);
        due("from the disks", x.read(63), 999);
    }

    @Sentence("3: Throws IndexOutOfBoundsException if there is no such block")
    static void readThrowsForBlock(GatheringCache x) {
        for (int block : NO_BLOCKS) {
            dueRefused(x, "read(" + block + ")", () -> x.read(block), INDEX);
        }
    }

    @Sentence("3: Throws IllegalStateException if the power is off")
    static void readThrowsWhileOff(GatheringCache x) {
        write(x, 0);
        x.power(false);
        dueRefused(x, "in a line", () -> x.read(0), STATE);
        dueRefused(x, "in no line", () -> x.read(63), STATE);
    }

    // ---- promise 4

    @Sentence("4: stripe: 0 to 15")
    static void destageStripes(GatheringCache x) {
        for (int stripe = 0; stripe < 16; stripe++) {
            write(x, 4 * stripe + 3);
            due("destage(" + stripe + ")", x.destage(stripe), 1);
        }
    }

    @Sentence("4: Returns the number of blocks that are written on the disks.")
    static void destageReturnsBlocks(GatheringCache x) {
        due("none", x.destage(0), 0);
        write(x, 0);
        due("one", x.destage(0), 1);
        write(x, 0, 1);
        due("two", x.destage(0), 2);
        write(x, 0, 1, 2);
        due("three", x.destage(0), 3);
        due("none again", x.destage(0), 0);
    }

    @Sentence("4: Throws IndexOutOfBoundsException if there is no such stripe")
    static void destageThrowsForStripe(GatheringCache x) {
        for (int stripe : NO_STRIPES) {
            dueRefused(x, "destage(" + stripe + ")", () -> x.destage(stripe), INDEX);
        }
    }

    @Sentence("4: Throws IllegalStateException if the power is off or the stick is out")
    static void destageThrowsWhileOffOrOut(GatheringCache x) {
        write(x, 0);
        x.power(false);
        dueRefused(x, "off", () -> x.destage(0), STATE);
        x.moveStick(false);
        dueRefused(x, "off and out", () -> x.destage(0), STATE);
        x.power(true);
        dueRefused(x, "out", () -> x.destage(0), STATE);
        dueRefused(x, "out, nothing to destage", () -> x.destage(1), STATE);
        putIn(x);
        x.power(true);
        due("on and in", x.destage(0), 1);
    }

    // ---- promise 5

    @Sentence("5: Returns the number of blocks that are written on the disks.")
    static void destageAllReturnsBlocks(GatheringCache x) {
        due("none", x.destageAll(), 0);
        write(x, 63);
        due("one", x.destageAll(), 1);
        due("none again", x.destageAll(), 0);
        GatheringCache full = fullCache();
        due("all lines", full.destageAll(), 12);
        dueCounts(full, 4, 16, 12, 0, 0, 0, 0, 4);
    }

    @Sentence("5: Destages all stripes")
    static void destageAllReachesEachStripe(GatheringCache unused) {
        for (int stripe = 0; stripe < 16; stripe++) {
            GatheringCache x = cache();
            write(x, 4 * stripe);
            due("stripe " + stripe, x.destageAll(), 1);
        }
    }

    @Sentence("5: Throws IllegalStateException if the power is off or the stick is out")
    static void destageAllThrowsWhileOffOrOut(GatheringCache x) {
        x.power(false);
        dueRefused(x, "off", () -> x.destageAll(), STATE);
        x.moveStick(false);
        dueRefused(x, "off and out", () -> x.destageAll(), STATE);
        x.power(true);
        dueRefused(x, "out", () -> x.destageAll(), STATE);
    }

    // ---- promise 6

    @Sentence("6: ticks: 1 to 99")
    static void passTicks(GatheringCache x) {
        x.power(false);
        due("1", x.pass(1), 99);
        x.power(true);
        x.pass(1);
        x.power(false);
        due("99", x.pass(99), 1);
    }

    @Sentence("6: Returns the charge after the call.")
    static void passReturnsCharge(GatheringCache x) {
        for (int ticks : new int[] {1, 40, 99, 1}) {
            x.power(ticks == 99);
            due("pass(" + ticks + ")", x.pass(ticks), x.charge());
        }
    }

    @Sentence("6: Throws IllegalArgumentException if the number is out of range")
    static void passThrows(GatheringCache x) {
        x.power(false);
        for (int ticks : new int[] {0, -1, 100, Integer.MIN_VALUE, Integer.MAX_VALUE}) {
            dueRefused(x, "pass(" + ticks + ")", () -> x.pass(ticks), ARGUMENT);
        }
    }

    // ---- promise 7

    @Sentence("7: limit: 1 to 100")
    static void limits(GatheringCache x) {
        for (int limit = 100; limit >= 1; limit--) {
            due("setLimit(" + limit + ")", x.setLimit(limit), limit);
        }
        due("setLimit(100)", x.setLimit(100), 1);
    }

    @Sentence("7: Returns the charge after the call.")
    static void setLimitReturnsCharge(GatheringCache x) {
        drainTo(x, 50);
        due("not the limit", x.setLimit(60), 50);
        due("the limit", x.setLimit(40), 40);
    }

    @Sentence("7: Throws IllegalArgumentException if the limit is out of range")
    static void setLimitThrows(GatheringCache x) {
        for (int limit : new int[] {0, -1, 101, Integer.MIN_VALUE, Integer.MAX_VALUE}) {
            dueRefused(x, "setLimit(" + limit + ")", () -> x.setLimit(limit), ARGUMENT);
        }
        drainTo(x, 50);
        x.power(true);
        due("the limit is still 100", x.pass(99), 100);
    }

    // ---- promise 8

    @Sentence("8: nothing happens if it is so already")
    static void powerAlready(GatheringCache x) {
        write(x, 0);
        x.setLimit(1);
        String on = state(x);
        due("on already", x.power(true), 0);
        due("nothing happened", state(x).equals(on), true);
        x.power(false);
        String off = state(x);
        due("off already", x.power(false), 0);
        due("nothing happened", state(x).equals(off), true);
    }

    @Sentence("8: Returns the number of blocks that are written on the disks by that.")
    static void powerReturnsBlocks(GatheringCache x) {
        due("off", x.power(false), 0);
        due("on", x.power(true), 0);
        x.setLimit(19);
        x.power(false);
        due("no dirty line", x.power(true), 0);
        GatheringCache full = fullCache();
        full.power(false);
        due("charge 100", full.power(true), 0);
        full.setLimit(19);
        due("off with dirty lines", full.power(false), 0);
        due("all lines", full.power(true), 12);
    }

    // ---- promise 9

    @Sentence("9: nothing happens if it is so already")
    static void stickAlready(GatheringCache x) {
        write(x, 0);
        x.power(false);
        String in = state(x);
        due("in already", x.moveStick(true), 0);
        due("nothing happened", state(x).equals(in), true);
        x.moveStick(false);
        String out = state(x);
        due("out already", x.moveStick(false), 0);
        due("nothing happened", state(x).equals(out), true);
    }

    @Sentence("9: Returns the number of lines that become empty by that.")
    static void moveStickReturnsLines(GatheringCache x) {
        x.power(false);
        due("an empty stick out", x.moveStick(false), 0);
        due("an empty stick in", x.moveStick(true), 0);
        GatheringCache full = fullCache();
        takeOut(full);
        write(full, 0, 1, 2, 4, 5, 6, 8, 9, 10, 12, 13, 14);
        full.power(false);
        due("all lines", full.moveStick(true), 12);
        due("used", full.used(), 0);
    }

    @Sentence("9: Throws IllegalStateException if the power is on")
    static void moveStickThrowsWhileOn(GatheringCache x) {
        dueRefused(x, "out while on", () -> x.moveStick(false), STATE);
        dueRefused(x, "in already while on", () -> x.moveStick(true), STATE);
    }

    // ---- promises 10 and 11

    @Sentence("10: character: a character code, 32 to 126")
    static void characters(GatheringCache x) {
        for (int character = 32; character <= 126; character++) {
            x.clearText();
            due("appendText(" + character + ")", x.appendText(character), 1);
        }
    }

    @Sentence("10: Returns the length of the text after the call.")
    static void appendReturnsLength(GatheringCache x) {
        for (int length = 1; length <= 80; length++) {
            due("appendText", x.appendText('m'), length);
            due("textLength", x.textLength(), length);
        }
    }

    @Sentence("10: Throws IllegalArgumentException if the character code is out of range")
    static void appendThrowsForCode(GatheringCache x) {
        // The last three would be 'p' if only some of their bits were looked at.
        for (int character : new int[] {31, 127, 0, -1, 10, 160, Integer.MIN_VALUE, Integer.MAX_VALUE,
                'p' + 128, 'p' + 256, 'p' + 65536}) {
            dueRefused(x, "appendText(" + character + ")", () -> x.appendText(character), ARGUMENT);
        }
    }

    @Sentence("10: Throws IllegalStateException if the text has 80 characters")
    static void appendThrowsWhileFull(GatheringCache x) {
        type(x, "p".repeat(79));
        due("the 80th", x.appendText('p'), 80);
        dueRefused(x, "the 81st", () -> x.appendText('p'), STATE);
        dueRefused(x, "the 81st again", () -> x.appendText(32), STATE);
    }

    @Sentence("11: Returns the length of the text before the call.")
    static void clearReturnsLength(GatheringCache x) {
        due("empty", x.clearText(), 0);
        x.appendText('p');
        due("one", x.clearText(), 1);
        due("empty again", x.clearText(), 0);
        type(x, "p".repeat(80));
        due("full", x.clearText(), 80);
        due("textLength", x.textLength(), 0);
    }

    // ---- promise 12

    @Sentence("12: Returns NONE if the text is valid, otherwise its error position.")
    static void errorPositionWhileTyping(GatheringCache x) {
        String text = "w10,0;t9p";
        int[] want = {1, 2, 3, 4, NONE, 6, 7, NONE, 8};
        for (int i = 0; i < text.length(); i++) {
            x.appendText(text.charAt(i));
            due("behind \"" + text.substring(0, i + 1) + "\"", x.errorPosition(), want[i]);
        }
        x.appendText('p');
        due("it stays where it is", x.errorPosition(), 8);
    }

    // ---- promise 13

    @Sentence("13: Execution ends before the first command for which the method would throw an exception.")
    static void endsBeforeWriteWhileOff(GatheringCache x) {
        type(x, "p;w0,1;p");
        due("runText", x.runText(), 1);
        due("isOn", x.isOn(), false);
        due("gathered and through", x.count(2) + x.count(3), 0);
        x.power(true);
        write(x, 0);
        due("no stamp was given", x.line(0, 0, 2), 1);
    }

    @Sentence("13: Execution ends before the first command for which the method would throw an exception.")
    static void endsBeforeReadWhileOff(GatheringCache x) {
        type(x, "p;r0;p");
        due("runText", x.runText(), 1);
        due("isOn", x.isOn(), false);
        due("reads", x.count(0) + x.count(4) + x.count(5), 0);
    }

    @Sentence("13: Execution ends before the first command for which the method would throw an exception.")
    static void endsBeforeDestageWhileOffOrOut(GatheringCache x) {
        write(x, 0);
        type(x, "p;d0;p");
        due("off", x.runText(), 1);
        due("isOn", x.isOn(), false);
        type(x, "m;p;t1;d0;p");
        due("out", x.runText(), 3);
        due("isOn", x.isOn(), true);
        due("dirty", x.dirty(), 1);
    }

    @Sentence("13: Execution ends before the first command for which the method would throw an exception.")
    static void endsBeforeMoveWhileOn(GatheringCache x) {
        type(x, "t1;m;p");
        due("in", x.runText(), 1);
        due("isIn", x.isIn(), true);
        due("isOn", x.isOn(), true);
        takeOut(x);
        type(x, "m;p");
        due("out", x.runText(), 0);
        due("isIn", x.isIn(), false);
        due("isOn", x.isOn(), true);
    }

    @Sentence("13: Executes the commands of the text in their order, as write(), read(), [..] do.")
    static void largestNumbersOfCommands(GatheringCache x) {
        type(x, "w63,999;r63;d15;t99;p;t99;p");
        due("runText", x.runText(), 7);
        dueLine(x, 3, 0, 63, 999, 1, 2, 0);
        due("onDisk", x.onDisk(63), 999);
        due("charge", x.charge(), 1);
        dueCounts(x, 2, 2, 1, 0, 1, 0, 0, 1);
    }

    @Sentence("13: Executes the commands of the text in their order, as write(), read(), [..] do.")
    static void smallestNumbersOfCommands(GatheringCache x) {
        x.write(0, 5);
        type(x, "w0,0;r0;d0;p;t1;p");
        due("runText", x.runText(), 6);
        dueLine(x, 0, 0, 0, 0, 2, 3, 0);
        due("charge", x.charge(), 99);
    }

    @Sentence("13: Executes the commands of the text in their order, as [..] power() and moveStick() do.")
    static void powerInTextDestages(GatheringCache x) {
        write(x, 0, 63);
        type(x, "p;t81;p");
        due("runText", x.runText(), 3);
        due("destaged at 19", x.dirty(), 0);
        x.pass(99);
        write(x, 0, 63);
        type(x, "p;t80;p");
        x.runText();
        due("not at 20", x.dirty(), 2);
    }

    @Sentence("13: Executes the commands of the text in their order, as [..] power() and moveStick() do.")
    static void moveInTextEmptiesLines(GatheringCache x) {
        type(x, "w0,1;w1,2;p;m;p;w0,3;p;m");
        due("runText", x.runText(), 8);
        dueBlocks(x, 0, NONE, 1, NONE);
        due("missing", x.missing(), 0);
    }

    @Sentence("13: The text stays in the buffer.")
    static void textStays(GatheringCache x) {
        type(x, "t1;p");
        x.runText();
        due("textLength", x.textLength(), 4);
        due("errorPosition", x.errorPosition(), NONE);
        due("it runs again", x.runText(), 2);
        due("isOn", x.isOn(), true);
        due("one more character", x.appendText(';'), 5);
    }

    @Sentence("13: Undoable, as one call, also if no command is executed.")
    static void runTextIsUndoneAsOneCall(GatheringCache x) {
        write(x, 0);
        String before = state(x);
        type(x, "w0,1;w1,2;r0;d0;t9;p;m;t9;p;w0,7");
        due("runText", x.runText(), 10);
        due("savedStates", x.savedStates(), 2);
        due("undo", x.undo(), 1);
        due("all of it is undone", state(x).equals(before), true);
    }

    @Sentence("13: Undoable, as one call, also if no command is executed.")
    static void runTextIsSavedWithNoCommand(GatheringCache x) {
        type(x, "m");
        due("runText", x.runText(), 0);
        due("savedStates", x.savedStates(), 1);
        for (int call = 0; call < 9; call++) {
            x.runText();
        }
        due("savedStates", x.savedStates(), 6);
        due("undo", x.undo(), 5);
    }

    @Sentence("13: Returns the number of commands that are executed.")
    static void runTextReturnsCommands(GatheringCache x) {
        type(x, "m;p");
        due("none", x.runText(), 0);
        type(x, "t1");
        due("one", x.runText(), 1);
        type(x, "p;".repeat(39) + "p");
        due("forty", x.runText(), 40);
    }

    @Sentence("13: Throws IllegalStateException if the text is not valid")
    static void runTextThrows(GatheringCache x) {
        dueRefused(x, "empty", () -> x.runText(), STATE);
        for (String text : new String[] {"p;", "t", "w0,", "t1;t0", "p;m;x", ";", "p;;p", "t1 ", "r64"}) {
            type(x, text);
            dueRefused(x, "\"" + text + "\"", () -> x.runText(), STATE);
        }
        x.clearText();
        dueRefused(x, "empty again", () -> x.runText(), STATE);
    }

    // ---- promise 14

    @Sentence("14: Returns the number of saved states that remain.")
    static void undoReturnsStates(GatheringCache x) {
        for (int call = 0; call < 9; call++) {
            x.pass(1);
        }
        for (int remain = 5; remain >= 0; remain--) {
            due("undo", x.undo(), remain);
            due("savedStates", x.savedStates(), remain);
        }
    }

    @Sentence("14: Throws IllegalStateException if there is no saved state")
    static void undoThrows(GatheringCache x) {
        dueRefused(x, "at first", () -> x.undo(), STATE);
        dueRefused(x, "again", () -> x.undo(), STATE);
        x.setLimit(50);
        due("undo", x.undo(), 0);
        dueRefused(x, "all undone", () -> x.undo(), STATE);
        due("charge", x.charge(), 100);
        x.setLimit(50);
        due("savedStates", x.savedStates(), 1);
    }
}
