/** The sentences of section 5 that name a boundary, a test each. */
public final class TimeAndPowerTests extends Checks {
    public static void main(String[] args) {
        testSentences(TimeAndPowerTests.class);
    }

    @Sentence("if the power is on and the stick is in, the charge increases by 2")
    static void loads(GatheringCache x) {
        drainTo(x, 1);
        x.power(true);
        due("a tick", x.pass(1), 3);
        due("ten ticks", x.pass(10), 23);
    }

    @Sentence("if the power is on and the stick is in, the charge increases by 2")
    static void loadsFrom0(GatheringCache x) {
        x.setLimit(1);
        x.setLimit(100);
        x.power(false);
        due("0", x.pass(1), 0);
        x.power(true);
        due("a tick", x.pass(1), 2);
    }

    @Sentence("but not above the limit")
    static void loadsToLimit(GatheringCache x) {
        due("at 100", x.pass(1), 100);
        drainTo(x, 99);
        x.power(true);
        due("from 99", x.pass(1), 100);
        drainTo(x, 98);
        x.power(true);
        due("from 98", x.pass(1), 100);
        x.setLimit(51);
        due("at a lower limit", x.pass(99), 51);
        drainTo(x, 50);
        x.power(true);
        due("from 50", x.pass(1), 51);
    }

    @Sentence("but not above the limit")
    static void loadsToLimit1(GatheringCache x) {
        x.setLimit(1);
        x.power(false);
        due("0", x.pass(1), 0);
        x.power(true);
        due("from 0 to the limit 1", x.pass(1), 1);
        due("at the limit 1", x.pass(99), 1);
    }

    @Sentence("Otherwise, if the charge is greater than 0, it decreases by 1")
    static void drains(GatheringCache x) {
        x.power(false);
        due("off and in", x.pass(1), 99);
        x.moveStick(false);
        due("off and out", x.pass(1), 98);
        x.power(true);
        due("on and out", x.pass(1), 97);
        due("99 ticks at 97", x.pass(99), 0);
    }

    @Sentence("if the charge is greater than 0")
    static void staysAt0(GatheringCache x) {
        drainTo(x, 1);
        due("1 to 0", x.pass(1), 0);
        due("0 to 0", x.pass(1), 0);
        due("0 to 0", x.pass(99), 0);
        x.moveStick(false);
        x.power(true);
        due("0 to 0 while the power is on", x.pass(99), 0);
        putIn(x);
        x.power(true);
        due("nothing is owed", x.pass(1), 2);
    }

    @Sentence("if it is 0 then, all lines become empty")
    static void linesAtCharge1And0(GatheringCache x) {
        write(x, 0, 4, 8, 12, 1, 5, 9, 13, 2, 6, 10, 14);
        drainTo(x, 1);
        due("used at 1", x.used(), 12);
        due("dirty at 1", x.dirty(), 12);
        due("lost at 1", x.count(6), 0);
        x.pass(1);
        due("used at 0", x.used(), 0);
        due("dirty at 0", x.dirty(), 0);
        due("lost at 0", x.count(6), 12);
        for (int set = 0; set < 4; set++) {
            for (int line = 0; line < 3; line++) {
                dueEmpty(x, set, line);
            }
        }
    }

    @Sentence("if it is 0 then, all lines become empty")
    static void linesAreLostOutside(GatheringCache x) {
        write(x, 0);
        takeOut(x);
        x.pass(99);
        due("used at 1", x.used(), 1);
        x.pass(1);
        due("used at 0", x.used(), 0);
        due("lost", x.count(6), 1);
    }

    @Sentence("if it is 0 then, all lines become empty")
    static void linesAreLostWithinTicks(GatheringCache x) {
        write(x, 0, 1);
        drainTo(x, 50);
        x.pass(99);
        due("used", x.used(), 0);
        due("lost", x.count(6), 2);
    }

    @Sentence("if it is 0 then, all lines become empty")
    static void emptiedLinesAreTakenAgain(GatheringCache x) {
        write(x, 0, 1, 2);
        x.read(1);
        drainTo(x, 1);
        x.pass(1);
        x.power(true);
        x.pass(10);
        x.write(3, 7);
        dueLine(x, 0, 0, 3, 7, 4, 5, 1);
        due("used", x.used(), 1);
    }

    @Sentence("and those that were dirty are lost lines")
    static void cleanLinesAreNotLost(GatheringCache x) {
        write(x, 0, 4);
        x.destage(0);
        drainTo(x, 1);
        x.pass(1);
        due("lost", x.count(6), 1);
        x.pass(99);
        due("not lost again", x.count(6), 1);
    }

    @Sentence("When the limit becomes less than the charge, the charge becomes the limit.")
    static void limitBelowCharge(GatheringCache x) {
        due("99 at 100", x.setLimit(99), 99);
        due("1 at 99", x.setLimit(1), 1);
        due("charge", x.charge(), 1);
    }

    @Sentence("When the limit becomes less than the charge, the charge becomes the limit.")
    static void limitNotBelowCharge(GatheringCache x) {
        due("equal", x.setLimit(100), 100);
        drainTo(x, 50);
        due("one more", x.setLimit(51), 50);
        due("equal", x.setLimit(50), 50);
        due("greater again", x.setLimit(100), 50);
        due("one less", x.setLimit(49), 49);
    }

    @Sentence("When the limit becomes less than the charge, the charge becomes the limit.")
    static void limitLosesNoLine(GatheringCache x) {
        write(x, 0);
        x.power(false);
        x.setLimit(1);
        due("used at 1", x.used(), 1);
        due("ticksToLoss", x.ticksToLoss(), 1);
        x.pass(1);
        due("used at 0", x.used(), 0);
    }

    @Sentence("When the power is switched on while the stick is in and the charge is less than 20, all stripes are destaged")
    static void switchedOnAt19And20(GatheringCache x) {
        write(x, 0, 63, 62);
        drainTo(x, 20);
        due("on at 20", x.power(true), 0);
        due("dirty", x.dirty(), 3);
        drainTo(x, 19);
        due("on at 19", x.power(true), 3);
        due("dirty", x.dirty(), 0);
        due("used", x.used(), 3);
        dueCounts(x, 4, 5, 3, 0, 0, 0, 0, 2);
    }

    @Sentence("When the power is switched on while the stick is in and the charge is less than 20, all stripes are destaged")
    static void switchedOnAt1(GatheringCache x) {
        write(x, 0);
        drainTo(x, 1);
        due("on at 1", x.power(true), 1);
        due("onDisk", x.onDisk(0), 100);
    }

    @Sentence("When the power is switched on")
    static void onAlready(GatheringCache x) {
        write(x, 0);
        x.setLimit(19);
        due("on already", x.power(true), 0);
        due("dirty", x.dirty(), 1);
        due("switched off", x.power(false), 0);
        due("off already", x.power(false), 0);
        due("dirty", x.dirty(), 1);
    }

    @Sentence("while the stick is in")
    static void switchedOnWhileOut(GatheringCache x) {
        write(x, 0);
        x.setLimit(19);
        x.power(false);
        x.moveStick(false);
        due("on while out", x.power(true), 0);
        due("dirty", x.dirty(), 1);
        due("onDisk", x.onDisk(0), 0);
    }

    @Sentence("The stick can be taken out and put in only while the power is off.")
    static void stickMovesWhileOff(GatheringCache x) {
        dueRefused(x, "out while on", () -> x.moveStick(false), STATE);
        dueRefused(x, "in while on", () -> x.moveStick(true), STATE);
        x.power(false);
        x.moveStick(false);
        due("out", x.isIn(), false);
        x.power(true);
        dueRefused(x, "in while on", () -> x.moveStick(true), STATE);
        dueRefused(x, "out while on", () -> x.moveStick(false), STATE);
        x.power(false);
        x.moveStick(true);
        due("in", x.isIn(), true);
    }

    @Sentence("When it is put in, each line whose stamp is less than the stamp of its block on the disks becomes empty.")
    static void lesserStamp(GatheringCache x) {
        write(x, 0, 4, 63);
        x.destage(0);
        takeOut(x);
        write(x, 0, 63);
        x.power(false);
        due("a clean and a dirty line", x.moveStick(true), 2);
        dueEmpty(x, 0, 0);
        dueEmpty(x, 3, 0);
        due("the dirty one is not lost", x.count(6), 0);
        due("missing", x.missing(), 0);
    }

    @Sentence("When it is put in, each line whose stamp is less than the stamp of its block on the disks becomes empty.")
    static void equalStamp(GatheringCache x) {
        write(x, 0);
        x.destage(0);
        takeOut(x);
        x.power(false);
        due("in", x.moveStick(true), 0);
        dueLine(x, 0, 0, 0, 100, 1, 1, 0);
    }

    @Sentence("When it is put in, each line whose stamp is less than the stamp of its block on the disks becomes empty.")
    static void greaterStamp(GatheringCache x) {
        takeOut(x);
        write(x, 0);
        putIn(x);
        x.power(true);
        x.write(0, 7);
        takeOut(x);
        x.power(false);
        due("in", x.moveStick(true), 0);
        dueLine(x, 0, 0, 0, 7, 2, 1, 1);
    }

    @Sentence("When it is put in")
    static void notWhenTakenOut(GatheringCache x) {
        write(x, 0);
        x.power(false);
        due("out", x.moveStick(false), 0);
        x.power(true);
        write(x, 0);
        x.power(false);
        due("out already", x.moveStick(false), 0);
        due("the outdated line is there still", x.used(), 1);
        due("in", x.moveStick(true), 1);
        due("in already", x.moveStick(true), 0);
    }
}
