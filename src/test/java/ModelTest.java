import java.util.ArrayList;
import java.util.Arrays;
import java.util.List;
import java.util.Random;
import java.util.TreeMap;
import java.util.function.Supplier;
import java.util.regex.Pattern;

/**
 * Long runs of calls, drawn from fixed seeds, on the class and on a model that is written another
 * way (whole copies, maps, a regular expression, trial instead of reckoning); after each call all
 * that the queries tell is compared.
 */
public final class ModelTest {
    private static final int RUNS = 200;
    private static final int CALLS = 512;

    public static void main(String[] args) {
        for (int seed = 1; seed <= RUNS; seed++) {
            run(seed);
        }
        System.out.println(RUNS + " runs of " + CALLS + " calls answer as the model does");
    }

    private static void run(int seed) {
        Random random = new Random(seed);
        GatheringCache x = new GatheringCache();
        Model model = new Model();
        // Few stripes fill a set more often; much time in a run takes the battery through its range.
        int blocks = seed % 3 == 0 ? 64 : seed % 3 == 1 ? 20 : 40;
        List<String> calls = new ArrayList<>();
        for (int i = 0; i < CALLS; i++) {
            Call call = Call.draw(random, blocks);
            calls.add(call.toString());
            String got = answer(() -> call.on(x));
            String due = answer(() -> call.on(model));
            if (!got.equals(due)) {
                fail(seed, calls, got, due);
            }
            String told = told(x);
            String toldDue = model.told();
            if (!told.equals(toldDue)) {
                fail(seed, calls, told, toldDue);
            }
        }
    }

    private static String answer(Supplier<Integer> call) {
        try {
            return "" + call.get();
        } catch (RuntimeException e) {
            return "throws." + e.getClass().getSimpleName();
        }
    }

    private static void fail(int seed, List<String> calls, String got, String due) {
        System.out.println("seed " + seed + ": " + calls);
        System.out.println("the last call leads to " + got);
        System.out.println("the model says         " + due);
        System.exit(1);
    }

    private static String told(GatheringCache x) {
        StringBuilder s = new StringBuilder();
        s.append(x.isOn()).append(' ').append(x.isIn()).append(' ').append(x.charge());
        for (int set = 0; set < 4; set++) {
            for (int line = 0; line < 3; line++) {
                s.append(" [");
                for (int part = 0; part < 5; part++) {
                    s.append(x.line(set, line, part)).append(' ');
                }
                s.append(']');
            }
        }
        for (int stripe = 0; stripe < 16; stripe++) {
            s.append(' ').append(x.dirtyOf(stripe));
        }
        s.append(" dirty ").append(x.dirty()).append(" used ").append(x.used());
        for (int block = 0; block < 64; block++) {
            s.append(' ').append(x.onDisk(block)).append(x.isFound(block) ? "f" : "-");
            s.append(x.ifWritten(block));
        }
        s.append(" missing ").append(x.missing()).append(" ifDestaged ").append(x.ifDestaged());
        s.append(" loss ").append(x.ticksToLoss()).append(" counts");
        for (int what = 0; what < 8; what++) {
            s.append(' ').append(x.count(what));
        }
        s.append(" per ").append(x.blocksPerStripe()).append(" saved ").append(x.savedStates());
        s.append(" text ").append(x.textLength()).append(' ').append(x.errorPosition());
        return s.toString();
    }

    /** The calls that change something; the queries are compared behind each of them. */
    private enum Kind {
        WRITE, READ, DESTAGE, DESTAGE_ALL, PASS, SET_LIMIT, POWER, MOVE_STICK, APPEND, CLEAR, TYPE, RUN, UNDO
    }

    private static final class Call {
        final Kind kind;
        final int first;
        final int second;
        final String text;

        Call(Kind kind, int first, int second) {
            this(kind, first, second, "");
        }

        Call(Kind kind, int first, int second, String text) {
            this.kind = kind;
            this.first = first;
            this.second = second;
            this.text = text;
        }

        static Call draw(Random random, int blocks) {
            int pick = random.nextInt(100);
            boolean odd = random.nextInt(25) == 0;
            int block = odd ? random.nextInt(80) - 8 : random.nextInt(blocks);
            if (pick < 35) {
                int value = random.nextInt(40) == 0 ? random.nextInt(1200) - 100 : random.nextInt(1000);
                return new Call(Kind.WRITE, block, value);
            } else if (pick < 41) {
                return new Call(Kind.READ, block, 0);
            } else if (pick < 44) {
                return new Call(Kind.DESTAGE, odd ? random.nextInt(20) - 2 : random.nextInt(16), 0);
            } else if (pick < 45) {
                return new Call(Kind.DESTAGE_ALL, 0, 0);
            } else if (pick < 53) {
                return new Call(Kind.PASS, odd ? random.nextInt(104) - 2 : 1 + random.nextInt(60), 0);
            } else if (pick < 55) {
                return new Call(Kind.SET_LIMIT, random.nextInt(104) - 1, 0);
            } else if (pick < 62) {
                return new Call(Kind.POWER, random.nextInt(3) == 0 ? 0 : 1, 0);
            } else if (pick < 67) {
                return new Call(Kind.MOVE_STICK, random.nextInt(3) == 0 ? 0 : 1, 0);
            } else if (pick < 76) {
                return new Call(Kind.APPEND, character(random), 0);
            } else if (pick < 78) {
                return new Call(Kind.CLEAR, 0, 0);
            } else if (pick < 85) {
                return new Call(Kind.TYPE, 0, 0, text(random, blocks));
            } else if (pick < 95) {
                return new Call(Kind.RUN, 0, 0);
            }
            return new Call(Kind.UNDO, 0, 0);
        }

        /** A text of some commands, now and then with a number out of range or a sign put in. */
        private static String text(Random random, int blocks) {
            StringBuilder s = new StringBuilder();
            int commands = 1 + random.nextInt(12);
            boolean spoilt = random.nextInt(4) == 0;
            for (int i = 0; i < commands; i++) {
                s.append(i == 0 ? "" : ";");
                switch (random.nextInt(10)) {
                    case 0: s.append('r').append(random.nextInt(spoilt ? 70 : blocks)); break;
                    case 1: s.append('d').append(random.nextInt(spoilt ? 18 : 16)); break;
                    case 2: s.append('t').append((spoilt ? 0 : 1) + random.nextInt(99)); break;
                    case 3: case 4: s.append('p'); break;
                    case 5: s.append('m'); break;
                    default:
                        s.append('w').append(random.nextInt(spoilt ? 66 : blocks)).append(',');
                        s.append(random.nextInt(spoilt ? 1010 : 1000));
                }
            }
            if (spoilt && random.nextBoolean()) {
                s.insert(random.nextInt(s.length() + 1), "w0,;9 p".charAt(random.nextInt(7)));
            }
            s.setLength(Math.min(s.length(), 80));
            return s.toString();
        }

        private static int character(Random random) {
            if (random.nextInt(40) == 0) {
                return random.nextInt(140) - 5;
            }
            return "wrdtpmpm,;;;0123456789".charAt(random.nextInt(22));
        }

        int on(GatheringCache x) {
            switch (kind) {
                case WRITE: return x.write(first, second);
                case READ: return x.read(first);
                case DESTAGE: return x.destage(first);
                case DESTAGE_ALL: return x.destageAll();
                case PASS: return x.pass(first);
                case SET_LIMIT: return x.setLimit(first);
                case POWER: return x.power(first == 1);
                case MOVE_STICK: return x.moveStick(first == 1);
                case APPEND: return x.appendText(first);
                case CLEAR: return x.clearText();
                case TYPE:
                    x.clearText();
                    for (int i = 0; i < text.length(); i++) {
                        x.appendText(text.charAt(i));
                    }
                    return text.length();
                case RUN: return x.runText();
                default: return x.undo();
            }
        }

        int on(Model model) {
            switch (kind) {
                case WRITE: return model.write(first, second);
                case READ: return model.read(first);
                case DESTAGE: return model.destage(first);
                case DESTAGE_ALL: return model.destageAll();
                case PASS: return model.pass(first);
                case SET_LIMIT: return model.setLimit(first);
                case POWER: return model.power(first == 1);
                case MOVE_STICK: return model.moveStick(first == 1);
                case APPEND: return model.append(first);
                case CLEAR: return model.clear();
                case TYPE:
                    model.text = text;
                    return text.length();
                case RUN: return model.run();
                default: return model.undo();
            }
        }

        @Override
        public String toString() {
            return kind + "(" + first + "," + second + ") " + text;
        }
    }

    /** A block's value with the stamp of its write. */
    private record Copy(int value, int stamp) { }

    /** A line of the stick that is not empty. */
    private record Line(int block, Copy copy, int use, boolean dirty) {
        int stripe() {
            return block / 4;
        }

        Line clean() {
            return new Line(block, copy, use, false);
        }
    }

    /** The state; the lines are kept by their place, set * 3 + line, and empty ones are left out. */
    private static final class World {
        final TreeMap<Integer, Copy> disk = new TreeMap<>();
        final TreeMap<Integer, Integer> latest = new TreeMap<>();
        final TreeMap<Integer, Line> lines = new TreeMap<>();
        final int[] counts = new int[8];
        int destagedBlocks;
        int stamps;
        int uses;
        int charge = 100;
        int limit = 100;
        boolean on = true;
        boolean in = true;

        World copy() {
            World w = new World();
            w.disk.putAll(disk);
            w.latest.putAll(latest);
            w.lines.putAll(lines);
            System.arraycopy(counts, 0, w.counts, 0, 8);
            w.destagedBlocks = destagedBlocks;
            w.stamps = stamps;
            w.uses = uses;
            w.charge = charge;
            w.limit = limit;
            w.on = on;
            w.in = in;
            return w;
        }

        Copy onDisk(int block) {
            return disk.getOrDefault(block, new Copy(0, 0));
        }

        Integer placeOf(int block) {
            for (int place : lines.keySet()) {
                if (lines.get(place).block() == block) {
                    return place;
                }
            }
            return null;
        }

        void writeOnDisks(List<Line> together) {
            int[] reads = {0, 2, 2, 1, 0};
            counts[0] += reads[together.size()];
            counts[1] += together.size() + 1;
            for (Line line : together) {
                disk.put(line.block(), line.copy());
            }
        }

        int write(int block, int value) {
            int before = counts[0] + counts[1];
            Copy copy = new Copy(value, ++stamps);
            latest.put(block, stamps);
            Integer place = placeOf(block);
            if (in && charge >= 20) {
                counts[2]++;
                if (place == null) {
                    place = taken(block / 4 % 4);
                }
                lines.put(place, new Line(block, copy, ++uses, true));
            } else {
                counts[3]++;
                writeOnDisks(List.of(new Line(block, copy, 0, false)));
                if (in && place != null) {
                    lines.put(place, new Line(block, copy, ++uses, false));
                }
            }
            return counts[0] + counts[1] - before;
        }

        Integer leastClean(int set) {
            Integer least = null;
            for (int place = set * 3; place < set * 3 + 3; place++) {
                Line line = lines.get(place);
                if (!line.dirty() && (least == null || line.use() < lines.get(least).use())) {
                    least = place;
                }
            }
            return least;
        }

        int taken(int set) {
            for (int place = set * 3; place < set * 3 + 3; place++) {
                if (!lines.containsKey(place)) {
                    return place;
                }
            }
            if (leastClean(set) == null) {
                TreeMap<Integer, Integer> dirty = new TreeMap<>();
                for (int place = set * 3; place < set * 3 + 3; place++) {
                    dirty.merge(lines.get(place).stripe(), 1, Integer::sum);
                }
                int fullest = dirty.firstKey();
                for (int stripe : dirty.keySet()) {
                    fullest = dirty.get(stripe) > dirty.get(fullest) ? stripe : fullest;
                }
                destage(fullest);
            }
            return leastClean(set);
        }

        int destage(int stripe) {
            List<Line> together = new ArrayList<>();
            for (int place = 0; place < 12; place++) {
                Line line = lines.get(place);
                if (line != null && line.dirty() && line.stripe() == stripe) {
                    together.add(line);
                    lines.put(place, line.clean());
                }
            }
            if (!together.isEmpty()) {
                writeOnDisks(together);
                counts[7]++;
                destagedBlocks += together.size();
            }
            return together.size();
        }

        int destageAll() {
            int blocks = 0;
            for (int stripe = 0; stripe < 16; stripe++) {
                blocks += destage(stripe);
            }
            return blocks;
        }

        int read(int block) {
            Integer place = in ? placeOf(block) : null;
            if (place == null) {
                counts[0]++;
                counts[5]++;
                return onDisk(block).value();
            }
            Line line = lines.get(place);
            counts[4]++;
            lines.put(place, new Line(block, line.copy(), ++uses, line.dirty()));
            return line.copy().value();
        }

        void tick() {
            if (on && in) {
                charge = charge + 2 > limit ? limit : charge + 2;
            } else {
                if (charge > 0) {
                    charge--;
                }
                if (charge == 0) {
                    counts[6] += dirty();
                    lines.clear();
                }
            }
        }

        int dirty() {
            return (int) lines.values().stream().filter(Line::dirty).count();
        }

        int switchTo(boolean toOn) {
            boolean was = on;
            on = toOn;
            return !was && on && in && charge < 20 ? destageAll() : 0;
        }

        int move(boolean toIn) {
            int before = lines.size();
            if (toIn && !in) {
                lines.values().removeIf(line -> line.copy().stamp() < onDisk(line.block()).stamp());
            }
            in = toIn;
            return before - lines.size();
        }

        boolean isFound(int block) {
            if (!latest.containsKey(block)) {
                return true;
            }
            int stamp = latest.get(block);
            return onDisk(block).stamp() == stamp
                    || in && lines.values().stream().anyMatch(l -> l.block() == block && l.copy().stamp() == stamp);
        }
    }

    private static final class Model {
        private static final String COMMAND = "(w(0|[1-9]|[1-5][0-9]|6[0-3]),(0|[1-9][0-9]{0,2})"
                + "|r(0|[1-9]|[1-5][0-9]|6[0-3])|d([0-9]|1[0-5])|t[1-9][0-9]?|p|m)";
        private static final Pattern VALID = Pattern.compile(COMMAND + "(;" + COMMAND + ")*");
        /** Every valid start becomes a valid text with one of these behind it. */
        private static final String[] ENDS = {"", "0", "1", ",0", "0,0", "p"};

        World world = new World();
        String text = "";
        final ArrayList<World> saved = new ArrayList<>();

        private void save() {
            saved.add(world.copy());
            if (saved.size() > 6) {
                saved.remove(0);
            }
        }

        private static void when(boolean bad, RuntimeException e) {
            if (bad) {
                throw e;
            }
        }

        int write(int block, int value) {
            when(block < 0 || block > 63, new IndexOutOfBoundsException());
            when(value < 0 || value > 999, new IllegalArgumentException());
            when(!world.on, new IllegalStateException());
            save();
            return world.write(block, value);
        }

        int read(int block) {
            when(block < 0 || block > 63, new IndexOutOfBoundsException());
            when(!world.on, new IllegalStateException());
            save();
            return world.read(block);
        }

        int destage(int stripe) {
            when(stripe < 0 || stripe > 15, new IndexOutOfBoundsException());
            when(!world.on || !world.in, new IllegalStateException());
            save();
            return world.destage(stripe);
        }

        int destageAll() {
            when(!world.on || !world.in, new IllegalStateException());
            save();
            return world.destageAll();
        }

        int pass(int ticks) {
            when(ticks < 1 || ticks > 99, new IllegalArgumentException());
            save();
            for (int i = 0; i < ticks; i++) {
                world.tick();
            }
            return world.charge;
        }

        int setLimit(int limit) {
            when(limit < 1 || limit > 100, new IllegalArgumentException());
            save();
            world.limit = limit;
            world.charge = world.charge > limit ? limit : world.charge;
            return world.charge;
        }

        int power(boolean on) {
            save();
            return world.switchTo(on);
        }

        int moveStick(boolean in) {
            when(world.on, new IllegalStateException());
            save();
            return world.move(in);
        }

        int append(int character) {
            when(character < 32 || character > 126, new IllegalArgumentException());
            when(text.length() == 80, new IllegalStateException());
            text = text + (char) character;
            return text.length();
        }

        int clear() {
            int length = text.length();
            text = "";
            return length;
        }

        private static boolean begins(String start) {
            return Arrays.stream(ENDS).anyMatch(end -> VALID.matcher(start + end).matches());
        }

        int errorPosition() {
            for (int i = 0; i < text.length(); i++) {
                if (!begins(text.substring(0, i + 1))) {
                    return i;
                }
            }
            return VALID.matcher(text).matches() ? -1 : text.length();
        }

        int run() {
            when(!VALID.matcher(text).matches(), new IllegalStateException());
            save();
            // The commands are tried by the methods themselves, on a model that saves for itself.
            Model trial = new Model();
            trial.world = world;
            int executed = 0;
            try {
                for (String command : text.split(";")) {
                    trial.command(command);
                    executed++;
                }
            } catch (IllegalStateException e) {
                // Execution ends before this command.
            }
            return executed;
        }

        private void command(String command) {
            String[] numbers = command.substring(1).split(",");
            switch (command.charAt(0)) {
                case 'w': write(Integer.parseInt(numbers[0]), Integer.parseInt(numbers[1])); break;
                case 'r': read(Integer.parseInt(numbers[0])); break;
                case 'd': destage(Integer.parseInt(numbers[0])); break;
                case 't': pass(Integer.parseInt(numbers[0])); break;
                case 'p': power(!world.on); break;
                default: moveStick(!world.in); break;
            }
        }

        int undo() {
            when(saved.isEmpty(), new IllegalStateException());
            world = saved.remove(saved.size() - 1);
            return saved.size();
        }

        /** By trial: what destaging all takes on a copy. */
        private int ifDestaged() {
            if (!world.on || !world.in) {
                return -1;
            }
            World trial = world.copy();
            trial.destageAll();
            return trial.counts[0] + trial.counts[1] - world.counts[0] - world.counts[1];
        }

        private int ifWritten(int block) {
            return world.on ? world.copy().write(block, 0) : -1;
        }

        private int ticksToLoss() {
            if (world.on && world.in || world.dirty() == 0) {
                return -1;
            }
            World trial = world.copy();
            int ticks = 0;
            while (trial.counts[6] == world.counts[6]) {
                trial.tick();
                ticks++;
            }
            return ticks;
        }

        private float blocksPerStripe() {
            return world.counts[7] == 0 ? 0.0f : (float) world.destagedBlocks / (float) world.counts[7];
        }

        String told() {
            StringBuilder s = new StringBuilder();
            s.append(world.on).append(' ').append(world.in).append(' ').append(world.charge);
            for (int place = 0; place < 12; place++) {
                Line l = world.lines.get(place);
                s.append(l == null ? " [-1 -1 -1 -1 -1 ]" : " [" + l.block() + " " + l.copy().value() + " "
                        + l.copy().stamp() + " " + l.use() + " " + (l.dirty() ? 1 : 0) + " ]");
            }
            for (int stripe = 0; stripe < 16; stripe++) {
                int wanted = stripe;
                s.append(' ').append(world.lines.values().stream()
                        .filter(l -> l.dirty() && l.stripe() == wanted).count());
            }
            s.append(" dirty ").append(world.dirty()).append(" used ").append(world.lines.size());
            int missing = 0;
            for (int block = 0; block < 64; block++) {
                boolean found = world.isFound(block);
                missing += found ? 0 : 1;
                s.append(' ').append(world.onDisk(block).value()).append(found ? "f" : "-");
                s.append(ifWritten(block));
            }
            s.append(" missing ").append(missing).append(" ifDestaged ").append(ifDestaged());
            s.append(" loss ").append(ticksToLoss()).append(" counts");
            for (int what = 0; what < 8; what++) {
                s.append(' ').append(world.counts[what]);
            }
            s.append(" per ").append(blocksPerStripe()).append(" saved ").append(saved.size());
            s.append(" text ").append(text.length()).append(' ').append(errorPosition());
            return s.toString();
        }
    }
}
