/**
 * A write cache on a memory stick with a battery, in front of disks with stripes and parity.
 *
 * <p>The public methods look at their arguments, throw what the document names and save the state
 * for undo; what the call does then is done by the classes inside.
 */
public final class GatheringCache {
    public static final int NONE = -1;

    private static final int BLOCKS = 64;
    private static final int BLOCKS_IN_STRIPE = 4;
    private static final int STRIPES = 16;
    private static final int SETS = 4;
    private static final int LINES_IN_SET = 3;
    private static final int LINES = 12;
    private static final int MOST_VALUE = 999;
    private static final int MOST_TICKS = 99;
    private static final int MOST_LIMIT = 100;
    private static final int GATHERING_CHARGE = 20;
    private static final int MOST_SAVED = 6;
    private static final int MOST_TEXT = 80;
    private static final int FIRST_CHARACTER = 32;
    private static final int LAST_CHARACTER = 126;

    private static final int PART_BLOCK = 0;
    private static final int PART_VALUE = 1;
    private static final int PART_STAMP = 2;
    private static final int PART_USE = 3;
    private static final int PART_DIRTY = 4;

    private static final int DISK_READS = 0;
    private static final int DISK_WRITES = 1;
    private static final int GATHERED = 2;
    private static final int THROUGH = 3;
    private static final int LINE_READS = 4;
    private static final int READS_FROM_DISKS = 5;
    private static final int LOST_LINES = 6;
    private static final int DESTAGED_STRIPES = 7;
    /** Kept beside the counts that can be asked for, as blocksPerStripe() needs it. */
    private static final int DESTAGED_BLOCKS = 8;
    private static final int COUNTS = 9;

    /** The letters of the commands; a command's number is the index of its letter. */
    private static final String COMMANDS = "wrdtpm";
    private static final int WRITE = 0;
    private static final int READ = 1;
    private static final int DESTAGE = 2;
    private static final int PASS = 3;
    private static final int POWER = 4;
    private static final int MOVE_STICK = 5;

    private final State now;
    private final History history;
    private final Text text;

    public GatheringCache() {
        now = new State();
        history = new History();
        text = new Text();
    }

    // ---- writes, reads, destaging

    public int write(int block, int value)
            throws IndexOutOfBoundsException, IllegalArgumentException, IllegalStateException {
        requireBlock(block);
        if (value < 0 || value > MOST_VALUE) {
            throw new IllegalArgumentException("the value is out of range");
        }
        requirePower();
        history.save(now);
        return now.writeBlock(block, value);
    }

    public int read(int block) throws IndexOutOfBoundsException, IllegalStateException {
        requireBlock(block);
        requirePower();
        history.save(now);
        return now.readBlock(block);
    }

    public int destage(int stripe) throws IndexOutOfBoundsException, IllegalStateException {
        requireStripe(stripe);
        requireDestaging();
        history.save(now);
        return now.destageStripe(stripe);
    }

    public int destageAll() throws IllegalStateException {
        requireDestaging();
        history.save(now);
        return now.destageStripes();
    }

    // ---- time, battery, power

    public int pass(int ticks) throws IllegalArgumentException {
        if (ticks < 1 || ticks > MOST_TICKS) {
            throw new IllegalArgumentException("the number of ticks is out of range");
        }
        history.save(now);
        now.letPass(ticks);
        return now.stick.charge;
    }

    public int setLimit(int limit) throws IllegalArgumentException {
        if (limit < 1 || limit > MOST_LIMIT) {
            throw new IllegalArgumentException("the limit is out of range");
        }
        history.save(now);
        now.stick.limitTo(limit);
        return now.stick.charge;
    }

    public int power(boolean on) {
        history.save(now);
        return now.switchPower(on);
    }

    public int moveStick(boolean in) throws IllegalStateException {
        if (now.on) {
            throw new IllegalStateException("the power is on");
        }
        history.save(now);
        return now.placeStick(in);
    }

    // ---- texts

    public int appendText(int character) throws IllegalArgumentException, IllegalStateException {
        if (character < FIRST_CHARACTER || character > LAST_CHARACTER) {
            throw new IllegalArgumentException("the character code is out of range");
        }
        if (text.length >= MOST_TEXT) {
            throw new IllegalStateException("the text is full");
        }
        text.append((char) character);
        return text.length;
    }

    public int clearText() {
        int length = text.length;
        text.length = 0;
        return length;
    }

    public int errorPosition() {
        return text.firstError();
    }

    public int runText() throws IllegalStateException {
        if (text.firstError() != NONE) {
            throw new IllegalStateException("the text is not valid");
        }
        history.save(now);
        text.rewind();
        int executed = 0;
        while (executed < MOST_TEXT && text.takeCommand() && execute()) {
            executed++;
            text.takeSign(';');
        }
        return executed;
    }

    // ---- undo

    public int undo() throws IllegalStateException {
        if (history.size == 0) {
            throw new IllegalStateException("there is no saved state");
        }
        history.restore(now);
        return history.size;
    }

    // ---- queries about the stick; queries change nothing

    public boolean isOn() {
        return now.on;
    }

    public boolean isIn() {
        return now.stick.in;
    }

    public int charge() {
        return now.stick.charge;
    }

    public int line(int set, int line, int part)
            throws IndexOutOfBoundsException, IllegalArgumentException {
        if (set < 0 || set >= SETS || line < 0 || line >= LINES_IN_SET) {
            throw new IndexOutOfBoundsException("there is no such set or line");
        }
        if (part < PART_BLOCK || part > PART_DIRTY) {
            throw new IllegalArgumentException("there is no such part");
        }
        return now.stick.partOf(set * LINES_IN_SET + line, part);
    }

    public int dirtyOf(int stripe) throws IndexOutOfBoundsException {
        requireStripe(stripe);
        return now.stick.dirtyLinesOf(stripe);
    }

    public int dirty() {
        return now.stick.dirtyLines();
    }

    public int used() {
        return now.stick.usedLines();
    }

    // ---- queries about the disks

    public int onDisk(int block) throws IndexOutOfBoundsException {
        requireBlock(block);
        return now.diskValueOf(block);
    }

    public boolean isFound(int block) throws IndexOutOfBoundsException {
        requireBlock(block);
        return now.finds(block);
    }

    public int missing() {
        int missing = 0;
        for (int block = 0; block < BLOCKS; block++) {
            if (!now.finds(block)) {
                missing++;
            }
        }
        return missing;
    }

    // ---- queries about what would happen

    public int ifWritten(int block) throws IndexOutOfBoundsException {
        requireBlock(block);
        return now.on ? now.operationsIfWritten(block) : NONE;
    }

    public int ifDestaged() {
        return now.canDestage() ? now.operationsIfDestaged() : NONE;
    }

    public int ticksToLoss() {
        if (now.canDestage() || now.stick.dirtyLines() == 0) {
            return NONE;
        }
        return now.stick.charge;
    }

    // ---- counts

    public int count(int what) throws IllegalArgumentException {
        if (what < DISK_READS || what > DESTAGED_STRIPES) {
            throw new IllegalArgumentException("there is no such count");
        }
        return now.counts[what];
    }

    public float blocksPerStripe() {
        int stripes = now.counts[DESTAGED_STRIPES];
        if (stripes == 0) {
            return 0.0f;
        }
        return (float) now.counts[DESTAGED_BLOCKS] / (float) stripes;
    }

    public int savedStates() {
        return history.size;
    }

    public int textLength() {
        return text.length;
    }

    // ---- what the calls have in common

    private static boolean isBlock(int block) {
        return block >= 0 && block < BLOCKS;
    }

    private static boolean isLine(int line) {
        return line >= 0 && line < LINES;
    }

    private static int stripeOf(int block) {
        return block / BLOCKS_IN_STRIPE;
    }

    private static void requireBlock(int block) throws IndexOutOfBoundsException {
        if (!isBlock(block)) {
            throw new IndexOutOfBoundsException("there is no such block");
        }
    }

    private static void requireStripe(int stripe) throws IndexOutOfBoundsException {
        if (stripe < 0 || stripe >= STRIPES) {
            throw new IndexOutOfBoundsException("there is no such stripe");
        }
    }

    private void requirePower() throws IllegalStateException {
        if (!now.on) {
            throw new IllegalStateException("the power is off");
        }
    }

    private void requireDestaging() throws IllegalStateException {
        if (!now.canDestage()) {
            throw new IllegalStateException("the power is off or the stick is out");
        }
    }

    /**
     * Executes the command that was taken from the text last; false, with nothing changed, if its
     * method would throw. The ranges of the numbers need no test here: the text is valid.
     */
    private boolean execute() {
        switch (text.command) {
            case WRITE:
                if (now.on) {
                    now.writeBlock(text.first, text.second);
                }
                return now.on;
            case READ:
                if (now.on) {
                    now.readBlock(text.first);
                }
                return now.on;
            case DESTAGE:
                if (now.canDestage()) {
                    now.destageStripe(text.first);
                }
                return now.canDestage();
            case PASS:
                now.letPass(text.first);
                return true;
            case POWER:
                now.switchPower(!now.on);
                return true;
            case MOVE_STICK:
                if (!now.on) {
                    now.placeStick(!now.stick.in);
                }
                return !now.on;
            default:
                return false;
        }
    }

    /** The disk reads that it takes to write so many blocks of one stripe together. */
    private static int readsToWrite(int blocks) {
        return blocks <= 2 ? 2 : BLOCKS_IN_STRIPE - blocks;
    }

    /** The disk writes that it takes to write so many blocks of one stripe, and its parity. */
    private static int writesToWrite(int blocks) {
        return blocks + 1;
    }

    private static int operationsToWrite(int blocks) {
        return blocks == 0 ? 0 : readsToWrite(blocks) + writesToWrite(blocks);
    }

    /** Everything that undo() brings back. */
    private static final class State {
        final Stick stick = new Stick();
        final int[] diskValues = new int[BLOCKS];
        final int[] diskStamps = new int[BLOCKS];
        /** The stamp of each block's latest write, 0 before the first; no call asks for its value. */
        final int[] latestStamps = new int[BLOCKS];
        final int[] counts = new int[COUNTS];
        int lastStamp;
        boolean on = true;

        void copyFrom(State other) {
            stick.copyFrom(other.stick);
            System.arraycopy(other.diskValues, 0, diskValues, 0, BLOCKS);
            System.arraycopy(other.diskStamps, 0, diskStamps, 0, BLOCKS);
            System.arraycopy(other.latestStamps, 0, latestStamps, 0, BLOCKS);
            System.arraycopy(other.counts, 0, counts, 0, COUNTS);
            lastStamp = other.lastStamp;
            on = other.on;
        }

        boolean canDestage() {
            return on && stick.in;
        }

        boolean gathers() {
            return stick.in && stick.charge >= GATHERING_CHARGE;
        }

        int diskValueOf(int block) {
            return isBlock(block) ? diskValues[block] : NONE;
        }

        void putOnDisk(int block, int value, int stamp) {
            if (isBlock(block)) {
                diskValues[block] = value;
                diskStamps[block] = stamp;
            }
        }

        void countWrittenTogether(int blocks) {
            counts[DISK_READS] += readsToWrite(blocks);
            counts[DISK_WRITES] += writesToWrite(blocks);
        }

        int writeBlock(int block, int value) {
            int before = counts[DISK_READS] + counts[DISK_WRITES];
            lastStamp++;
            if (isBlock(block)) {
                latestStamps[block] = lastStamp;
            }
            if (gathers()) {
                gather(block, value);
            } else {
                writeThrough(block, value);
            }
            return counts[DISK_READS] + counts[DISK_WRITES] - before;
        }

        void gather(int block, int value) {
            int set = stripeOf(block) % SETS;
            int line = stick.lineOf(block);
            if (!isLine(line)) {
                line = stick.freeLine(set);
            }
            if (!isLine(line)) {
                destageStripe(stick.fullestStripe(set));
                line = stick.freeLine(set);
            }
            stick.fill(line, block, value, lastStamp, true);
            counts[GATHERED]++;
        }

        void writeThrough(int block, int value) {
            putOnDisk(block, value, lastStamp);
            countWrittenTogether(1);
            stick.fill(stick.lineInReach(block), block, value, lastStamp, false);
            counts[THROUGH]++;
        }

        int readBlock(int block) {
            int line = stick.lineInReach(block);
            if (isLine(line)) {
                counts[LINE_READS]++;
                stick.use(line);
                return stick.values[line];
            }
            counts[READS_FROM_DISKS]++;
            counts[DISK_READS]++;
            return diskValueOf(block);
        }

        int destageStripe(int stripe) {
            int written = 0;
            for (int line = 0; line < LINES; line++) {
                if (stick.isDirtyOf(line, stripe)) {
                    putOnDisk(stick.blocks[line], stick.values[line], stick.stamps[line]);
                    stick.dirty[line] = false;
                    written++;
                }
            }
            if (written > 0) {
                countWrittenTogether(written);
                counts[DESTAGED_STRIPES]++;
                counts[DESTAGED_BLOCKS] += written;
            }
            return written;
        }

        int destageStripes() {
            int written = 0;
            for (int stripe = 0; stripe < STRIPES; stripe++) {
                written += destageStripe(stripe);
            }
            return written;
        }

        void letPass(int ticks) {
            for (int tick = 0; tick < ticks; tick++) {
                if (canDestage()) {
                    stick.load();
                } else {
                    counts[LOST_LINES] += stick.drain();
                }
            }
        }

        int switchPower(boolean toOn) {
            boolean switchedOn = toOn && !on;
            on = toOn;
            if (switchedOn && stick.in && stick.charge < GATHERING_CHARGE) {
                return destageStripes();
            }
            return 0;
        }

        int placeStick(boolean toIn) {
            boolean putIn = toIn && !stick.in;
            stick.in = toIn;
            return putIn ? emptyOutdatedLines() : 0;
        }

        int emptyOutdatedLines() {
            int emptied = 0;
            for (int line = 0; line < LINES; line++) {
                int block = stick.blocks[line];
                if (isBlock(block) && stick.stamps[line] < diskStamps[block]) {
                    stick.empty(line);
                    emptied++;
                }
            }
            return emptied;
        }

        boolean finds(int block) {
            if (!isBlock(block)) {
                return false;
            }
            // A block that was never written is found by this, too: both stamps are 0.
            if (diskStamps[block] == latestStamps[block]) {
                return true;
            }
            int line = stick.lineInReach(block);
            return isLine(line) && stick.stamps[line] == latestStamps[block];
        }

        int operationsIfWritten(int block) {
            if (!gathers()) {
                return operationsToWrite(1);
            }
            int set = stripeOf(block) % SETS;
            if (isLine(stick.lineOf(block)) || isLine(stick.freeLine(set))) {
                return 0;
            }
            return operationsToWrite(stick.dirtyLinesOf(stick.fullestStripe(set)));
        }

        int operationsIfDestaged() {
            int operations = 0;
            for (int stripe = 0; stripe < STRIPES; stripe++) {
                operations += operationsToWrite(stick.dirtyLinesOf(stripe));
            }
            return operations;
        }
    }

    /** The stick: its lines, set by set, and its battery. */
    private static final class Stick {
        /** The block that each line holds; NONE if the line is empty. */
        final int[] blocks = new int[LINES];
        final int[] values = new int[LINES];
        final int[] stamps = new int[LINES];
        final int[] uses = new int[LINES];
        /** An empty line is never dirty. */
        final boolean[] dirty = new boolean[LINES];
        int lastUse;
        int limit = MOST_LIMIT;
        int charge = MOST_LIMIT;
        boolean in = true;

        Stick() {
            for (int line = 0; line < LINES; line++) {
                blocks[line] = NONE;
            }
        }

        void copyFrom(Stick other) {
            System.arraycopy(other.blocks, 0, blocks, 0, LINES);
            System.arraycopy(other.values, 0, values, 0, LINES);
            System.arraycopy(other.stamps, 0, stamps, 0, LINES);
            System.arraycopy(other.uses, 0, uses, 0, LINES);
            // A loop, as the language lets arraycopy take arrays of numbers alone.
            for (int line = 0; line < LINES; line++) {
                dirty[line] = other.dirty[line];
            }
            lastUse = other.lastUse;
            limit = other.limit;
            charge = other.charge;
            in = other.in;
        }

        int lineOf(int block) {
            for (int line = 0; line < LINES; line++) {
                if (blocks[line] == block) {
                    return line;
                }
            }
            return NONE;
        }

        /** The line that holds a block, as the machine sees it: no line while the stick is out. */
        int lineInReach(int block) {
            return in ? lineOf(block) : NONE;
        }

        /** The line of a set that can be taken without destaging; NONE if all of them are dirty. */
        int freeLine(int set) {
            int free = NONE;
            int leastUse = 0;
            for (int line = 0; line < LINES; line++) {
                if (line / LINES_IN_SET == set && !dirty[line]) {
                    if (blocks[line] == NONE) {
                        return line;
                    }
                    if (free == NONE || uses[line] < leastUse) {
                        free = line;
                        leastUse = uses[line];
                    }
                }
            }
            return free;
        }

        /** The stripe with the most dirty lines in a set, of several the lowest. */
        int fullestStripe(int set) {
            int fullest = NONE;
            int most = 0;
            for (int stripe = 0; stripe < STRIPES; stripe++) {
                if (stripe % SETS == set && dirtyLinesOf(stripe) > most) {
                    fullest = stripe;
                    most = dirtyLinesOf(stripe);
                }
            }
            return fullest;
        }

        /** Does nothing if there is no such line. */
        void fill(int line, int block, int value, int stamp, boolean asDirty) {
            if (isLine(line)) {
                blocks[line] = block;
                values[line] = value;
                stamps[line] = stamp;
                dirty[line] = asDirty;
                use(line);
            }
        }

        void use(int line) {
            if (isLine(line)) {
                lastUse++;
                uses[line] = lastUse;
            }
        }

        void empty(int line) {
            if (isLine(line)) {
                blocks[line] = NONE;
                dirty[line] = false;
            }
        }

        boolean isDirtyOf(int line, int stripe) {
            return line >= 0 && line < LINES && dirty[line] && stripeOf(blocks[line]) == stripe;
        }

        int dirtyLinesOf(int stripe) {
            int lines = 0;
            for (int line = 0; line < LINES; line++) {
                if (isDirtyOf(line, stripe)) {
                    lines++;
                }
            }
            return lines;
        }

        int dirtyLines() {
            int lines = 0;
            for (int line = 0; line < LINES; line++) {
                if (dirty[line]) {
                    lines++;
                }
            }
            return lines;
        }

        int usedLines() {
            int lines = 0;
            for (int line = 0; line < LINES; line++) {
                if (blocks[line] != NONE) {
                    lines++;
                }
            }
            return lines;
        }

        int partOf(int line, int part) {
            if (!isLine(line) || blocks[line] == NONE) {
                return NONE;
            }
            switch (part) {
                case PART_BLOCK:
                    return blocks[line];
                case PART_VALUE:
                    return values[line];
                case PART_STAMP:
                    return stamps[line];
                case PART_USE:
                    return uses[line];
                case PART_DIRTY:
                    return dirty[line] ? 1 : 0;
                default:
                    return NONE;
            }
        }

        void limitTo(int newLimit) {
            limit = newLimit;
            charge = Math.min(charge, limit);
        }

        void load() {
            charge = Math.min(charge + 2, limit);
        }

        /** A tick without power from outside; answers how many lines are lost. */
        int drain() {
            charge = Math.max(charge - 1, 0);
            if (charge > 0) {
                return 0;
            }
            int lost = dirtyLines();
            for (int line = 0; line < LINES; line++) {
                empty(line);
            }
            return lost;
        }
    }

    /** The states saved for undo; the rows are made once, and the oldest is written over. */
    private static final class History {
        final State[] states = new State[MOST_SAVED];
        int size;
        /** Where the next state is saved; turned into an index by floorMod. */
        int next;

        History() {
            for (int i = 0; i < MOST_SAVED; i++) {
                states[i] = new State();
            }
        }

        void save(State state) {
            State row = states[Math.floorMod(next, MOST_SAVED)];
            if (row != null) {
                row.copyFrom(state);
            }
            next++;
            size = Math.min(size + 1, MOST_SAVED);
        }

        void restore(State state) {
            next--;
            size = Math.max(size - 1, 0);
            State row = states[Math.floorMod(next, MOST_SAVED)];
            if (row != null) {
                state.copyFrom(row);
            }
        }
    }

    /**
     * The text buffer, and a cursor that takes commands from its start on. The cursor stands still
     * before the first character that no valid text can have there, so it is the error position.
     */
    private static final class Text {
        /** What the cursor sees behind the text; no text can hold it. */
        private static final char END = (char) 0;

        final char[] characters = new char[MOST_TEXT];
        int length;
        int cursor;
        /** The command taken last, and its numbers. */
        int command;
        int first;
        int second;

        void append(char character) {
            if (length >= 0 && length < MOST_TEXT) {
                characters[length] = character;
                length++;
            }
        }

        void rewind() {
            cursor = 0;
        }

        /** The error position; NONE if the text is valid. */
        int firstError() {
            rewind();
            for (int commands = 0; commands < MOST_TEXT; commands++) {
                if (!takeCommand()) {
                    return cursor;
                }
                if (cursor == length) {
                    return NONE;
                }
                if (!takeSign(';')) {
                    return cursor;
                }
            }
            return cursor;
        }

        char nextSign() {
            boolean within = cursor >= 0 && cursor < length && cursor < MOST_TEXT;
            return within ? characters[cursor] : END;
        }

        boolean takeSign(char sign) {
            if (nextSign() != sign) {
                return false;
            }
            cursor++;
            return true;
        }

        boolean takeCommand() {
            command = COMMANDS.indexOf(nextSign());
            if (command < 0) {
                return false;
            }
            cursor++;
            switch (command) {
                case WRITE:
                    first = takeNumber(0, BLOCKS - 1);
                    if (first == NONE || !takeSign(',')) {
                        return false;
                    }
                    second = takeNumber(0, MOST_VALUE);
                    return second != NONE;
                case READ:
                    first = takeNumber(0, BLOCKS - 1);
                    return first != NONE;
                case DESTAGE:
                    first = takeNumber(0, STRIPES - 1);
                    return first != NONE;
                case PASS:
                    first = takeNumber(1, MOST_TICKS);
                    return first != NONE;
                default:
                    return true;
            }
        }

        /**
         * Takes digits as long as they make a number from least to most without leading zeros;
         * NONE if there is none, or if a digit follows that makes it none.
         */
        int takeNumber(int least, int most) {
            int number = NONE;
            while (cursor < length) {
                char sign = nextSign();
                if (sign < '0' || sign > '9') {
                    return number;
                }
                int longer = Math.max(number, 0) * 10 + (sign - '0');
                if (number == 0 || longer < least || longer > most) {
                    return NONE;
                }
                number = longer;
                cursor++;
            }
            return number;
        }
    }
}
