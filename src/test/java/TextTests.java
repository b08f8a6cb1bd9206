/** The sentences of section 6 that name a boundary, a test each. */
public final class TextTests extends Checks {
    public static void main(String[] args) {
        testSentences(TextTests.class);
    }

    private static void dueValid(String... texts) {
        for (String text : texts) {
            dueError(text, NONE);
        }
    }

    // ---- the buffer

    @Sentence("The text buffer holds at most 80 characters")
    static void holds80(GatheringCache x) {
        for (int length = 1; length <= 80; length++) {
            due("appendText", x.appendText('p'), length);
        }
        dueRefused(x, "the 81st", () -> x.appendText('p'), STATE);
        due("textLength", x.textLength(), 80);
        due("clearText", x.clearText(), 80);
        due("there is room again", x.appendText('p'), 1);
    }

    @Sentence("and is empty at first")
    static void emptyAtFirst(GatheringCache x) {
        due("textLength", x.textLength(), 0);
        due("errorPosition", x.errorPosition(), 0);
        due("clearText", x.clearText(), 0);
    }

    // ---- the commands of a text

    @Sentence("A valid text consists of one or more commands")
    static void oneOrMoreCommands(GatheringCache unused) {
        dueError("", 0);
        dueValid("p", "m", "r0", "d0", "t1", "w0,0", "p;m", "w0,0;r0;d0;t1;p;m");
    }

    @Sentence("A valid text consists of one or more commands")
    static void mostCommands(GatheringCache x) {
        String text = "p;".repeat(39) + "m";
        dueValid(text);
        type(x, text);
        due("39 times p, and m while off", x.runText(), 40);
        due("isIn", x.isIn(), false);
    }

    @Sentence("with one semicolon between two commands")
    static void semicolons(GatheringCache unused) {
        dueError(";", 0);
        dueError(";p", 0);
        dueError("p;", 2);
        dueError("p;;p", 2);
        dueError("pm", 1);
        dueError("r1r2", 2);
        dueError("w1,2w3,4", 4);
        dueError("p,m", 1);
        dueError("p:m", 1);
        dueError("p ;m", 1);
        dueError("p; m", 2);
        dueError(" p", 0);
        dueError("p ", 1);
    }

    // ---- numbers

    @Sentence("<n> stands for a number without leading zeros")
    static void leadingZeros(GatheringCache unused) {
        dueError("r00", 2);
        dueError("r01", 2);
        dueError("d00", 2);
        dueError("d07", 2);
        dueError("w00,0", 2);
        dueError("w05,0", 2);
        dueError("w0,00", 4);
        dueError("w0,01", 4);
        dueError("w0,010", 4);
        dueError("t01", 1);
    }

    @Sentence("(0 is written as \"0\")")
    static void zero(GatheringCache unused) {
        dueValid("r0", "d0", "w0,0");
        dueError("r", 1);
        dueError("d", 1);
        dueError("w,0", 1);
        dueError("w0,", 3);
        dueError("w0,;p", 3);
    }

    @Sentence("<n> stands for a number")
    static void signsBesideDigits(GatheringCache unused) {
        dueError("r/", 1);
        dueError("r:", 1);
        dueError("r-1", 1);
        dueError("r+1", 1);
        dueError("r 1", 1);
        dueError("r1.", 2);
        dueError("w1/", 2);
        dueError("w1,2/", 4);
        dueError("w1,2:", 4);
        dueError("t1:", 2);
        dueError("1", 0);
    }

    // ---- each command

    @Sentence("w<n>,<n>: write a block (0 to 63)")
    static void writeBlocks(GatheringCache unused) {
        dueValid("w0,1", "w1,1", "w9,1", "w59,1", "w60,1", "w63,1");
        dueError("w64,1", 2);
        dueError("w69,1", 2);
        dueError("w70,1", 2);
        dueError("w99,1", 2);
        dueError("w100,1", 3);
        dueError("w630,1", 3);
    }

    @Sentence("with a value (0 to 999)")
    static void writeValues(GatheringCache unused) {
        dueValid("w1,0", "w1,9", "w1,10", "w1,99", "w1,100", "w1,999");
        dueError("w1,1000", 6);
        dueError("w1,9990", 6);
    }

    @Sentence("w<n>,<n>")
    static void writeTakesTwoNumbers(GatheringCache unused) {
        dueError("w", 1);
        dueError("w1", 2);
        dueError("w1;p", 2);
        dueError("w1;2", 2);
        dueError("w1,", 3);
        dueError("w1,,2", 3);
        dueError("w1,2,", 4);
        dueError("w63,999,", 7);
    }

    @Sentence("r<n>: read a block (0 to 63)")
    static void readBlocks(GatheringCache unused) {
        dueValid("r0", "r6", "r7", "r59", "r60", "r63");
        dueError("r64", 2);
        dueError("r70", 2);
        dueError("r100", 3);
        dueError("r1,2", 2);
    }

    @Sentence("d<n>: destage a stripe (0 to 15)")
    static void destageStripes(GatheringCache unused) {
        dueValid("d0", "d1", "d2", "d9", "d10", "d15");
        dueError("d16", 2);
        dueError("d19", 2);
        dueError("d20", 2);
        dueError("d100", 3);
        dueError("d150", 3);
    }

    @Sentence("t<n>: let ticks pass (1 to 99)")
    static void passTicks(GatheringCache unused) {
        dueValid("t1", "t9", "t10", "t99");
        dueError("t0", 1);
        dueError("t100", 3);
        dueError("t990", 3);
        dueError("t", 1);
    }

    @Sentence("p: switch the power off if it is on, and on if it is off")
    static void powerTakesNoNumber(GatheringCache x) {
        dueError("p0", 1);
        dueError("p1", 1);
        run(x, "p");
        due("off", x.isOn(), false);
        run(x, "p");
        due("on", x.isOn(), true);
    }

    @Sentence("m: take the stick out if it is in, and put it in if it is out")
    static void moveTakesNoNumber(GatheringCache x) {
        dueError("m0", 1);
        dueError("m1", 1);
        x.power(false);
        run(x, "m");
        due("out", x.isIn(), false);
        run(x, "m");
        due("in", x.isIn(), true);
    }

    @Sentence("A command is one of the following")
    static void onlyTheseLettersBegin(GatheringCache unused) {
        for (char sign = 32; sign <= 126; sign++) {
            String text = "" + sign;
            dueError(text, "pm".indexOf(sign) >= 0 ? NONE : "wrdt".indexOf(sign) >= 0 ? 1 : 0);
        }
    }

    // ---- the error position

    @Sentence("The error position of a text is the smallest index i such that no valid text [..] begins with the characters 0 to i")
    static void smallestIndex(GatheringCache unused) {
        dueError("r64;r64", 2);
        dueError("t0;t0", 1);
        dueError("p;x;x", 2);
        dueError("xxxx", 0);
    }

    @Sentence("no valid text of any length begins with")
    static void validTextsLongerThanTheBuffer(GatheringCache unused) {
        String start = "p;".repeat(39);
        dueError(start + "p;", 80);
        dueError(start + "w1", 80);
        dueError(start + "pr", 79);
        dueError(start + "pp", 79);
        dueError("p;".repeat(38) + "w1,;", 79);
        dueError("p;".repeat(38) + "p;w1", 80);
        dueError("p;".repeat(38) + "w63,", 80);
    }

    @Sentence("If there is no such index and the text is not valid (it ends too early [..]), the error position is the length")
    static void endsTooEarly(GatheringCache unused) {
        for (String early : new String[] {"w", "w0", "w6", "w63", "w0,", "w63,", "r", "d", "t", "p;",
                "r1;", "w1,2;", "p;w", "p;r", "p;w0,"}) {
            dueError(early, early.length());
        }
    }

    @Sentence("(it ends too early, or it is empty), the error position is the length of the text")
    static void emptyText(GatheringCache x) {
        due("at first", x.errorPosition(), 0);
        type(x, "r12");
        x.clearText();
        due("cleared", x.errorPosition(), 0);
        type(x, "r");
        due("what was there before does not count", x.errorPosition(), 1);
    }
}
