import java.util.ArrayDeque;
import java.util.ArrayList;
import java.util.Deque;
import java.util.List;

/**
 * The document once more, as plainly as it can be written: minute by minute, all loads tried out,
 * all lists of bars asked. Only for tests, which hold LeafCradles against it.
 */
final class NaiveArchive {
    static final int NONE = -1;

    static final class Volume {
        int box;
        int format;
        int state;
        int strain;
        int cradle = NONE;
        int left;
        int[] condition;
        int[] scans;
        int[] bars;

        Volume copy() {
            Volume other = new Volume();
            other.box = box;
            other.format = format;
            other.state = state;
            other.strain = strain;
            other.cradle = cradle;
            other.left = left;
            other.condition = condition.clone();
            other.scans = scans.clone();
            other.bars = bars.clone();
            return other;
        }

        int next() {
            for (int wanted : new int[] {2, 0}) {
                for (int leaf = 0; leaf < condition.length; leaf++) {
                    if (condition[leaf] == wanted) {
                        return leaf;
                    }
                }
            }
            return NONE;
        }
    }

    static final class Cradle {
        int size;
        int gentleness;
        int volume = NONE;
        int work;
        int scanned;

        Cradle copy() {
            Cradle other = new Cradle();
            other.size = size;
            other.gentleness = gentleness;
            other.volume = volume;
            other.work = work;
            other.scanned = scanned;
            return other;
        }
    }

    static final class World {
        List<Volume> volumes = new ArrayList<>();
        List<Cradle> cradles = new ArrayList<>();
        List<int[]> carriers = new ArrayList<>();
        List<int[]> log = new ArrayList<>();
        int[] settings = {1, 1, 30, 1};
        int minute;
        int year = 2000;
        int rejects;

        World copy() {
            World other = new World();
            volumes.forEach(v -> other.volumes.add(v.copy()));
            cradles.forEach(c -> other.cradles.add(c.copy()));
            carriers.forEach(c -> other.carriers.add(c.clone()));
            log.forEach(e -> other.log.add(e.clone()));
            other.settings = settings.clone();
            other.minute = minute;
            other.year = year;
            other.rejects = rejects;
            return other;
        }

        boolean works(Cradle cradle) {
            if (cradle.volume == NONE) {
                return false;
            }
            Volume volume = volumes.get(cradle.volume);
            return volume.left == 0 && volume.state <= cradle.gentleness && volume.next() != NONE;
        }

        boolean anyWorks() {
            return cradles.stream().anyMatch(this::works);
        }

        int tick() {
            int scans = 0;
            for (Cradle cradle : cradles) {
                if (!works(cradle)) {
                    continue;
                }
                Volume volume = volumes.get(cradle.volume);
                cradle.work++;
                if (cradle.work >= settings[0] + settings[1] * volume.state) {
                    cradle.work = 0;
                    int leaf = volume.next();
                    volume.condition[leaf] = 1;
                    volume.scans[leaf]++;
                    cradle.scanned++;
                    scans++;
                    volume.strain++;
                    if (volume.strain >= settings[2]) {
                        volume.strain = 0;
                        volume.state++;
                    }
                }
            }
            for (int[] carrier : carriers) {
                if (carrier[1] > 0) {
                    carrier[1]--;
                }
            }
            for (Volume volume : volumes) {
                if (volume.left > 0) {
                    volume.left--;
                }
            }
            minute++;
            return scans;
        }

        int wayMinutes(int volume, int carrier) {
            return settings[3] * Math.abs(carriers.get(carrier)[0] - volumes.get(volume).box) + 1;
        }

        int way(int volume, int cradle, int carrier) {
            int minutes = wayMinutes(volume, carrier);
            int[] who = carriers.get(carrier);
            who[0] = volumes.get(volume).box;
            who[1] = minutes;
            who[2]++;
            who[3] += minutes;
            Volume moved = volumes.get(volume);
            if (moved.cradle != NONE) {
                cradles.get(moved.cradle).volume = NONE;
                cradles.get(moved.cradle).work = 0;
            }
            moved.cradle = cradle;
            moved.left = minutes;
            if (cradle != NONE) {
                cradles.get(cradle).volume = volume;
                cradles.get(cradle).work = 0;
            }
            log.add(new int[] {minute, carrier, volume, cradle, minutes});
            return minutes;
        }

        boolean open(Volume volume, int leaf) {
            return volume.condition[leaf] == 1 && volume.bars[leaf] <= year;
        }
    }

    World world = new World();
    final Deque<World> saved = new ArrayDeque<>();
    final StringBuilder buffer = new StringBuilder();

    private void save() {
        saved.addLast(world.copy());
        if (saved.size() > 6) {
            saved.removeFirst();
        }
    }

    private static void argument(boolean good) {
        if (!good) {
            throw new IllegalArgumentException();
        }
    }

    private static void index(boolean good) {
        if (!good) {
            throw new IndexOutOfBoundsException();
        }
    }

    private static void state(boolean good) {
        if (!good) {
            throw new IllegalStateException();
        }
    }

    private static boolean in(int value, int least, int greatest) {
        return least <= value && value <= greatest;
    }

    private boolean isVolume(int volume) {
        return in(volume, 0, world.volumes.size() - 1);
    }

    private boolean isCradle(int cradle) {
        return in(cradle, 0, world.cradles.size() - 1);
    }

    private boolean isCarrier(int carrier) {
        return in(carrier, 0, world.carriers.size() - 1);
    }

    int addVolume(int box, int format, int leaves, int state) {
        argument(in(box, 0, 19) && in(format, 1, 3) && in(leaves, 1, 40) && in(state, 0, 3));
        state(world.volumes.size() < 12);
        save();
        Volume volume = new Volume();
        volume.box = box;
        volume.format = format;
        volume.state = state;
        volume.condition = new int[leaves];
        volume.scans = new int[leaves];
        volume.bars = new int[leaves];
        world.volumes.add(volume);
        return world.volumes.size() - 1;
    }

    int addCradle(int size, int gentleness) {
        argument(in(size, 1, 3) && in(gentleness, 0, 2));
        state(world.cradles.size() < 4);
        save();
        Cradle cradle = new Cradle();
        cradle.size = size;
        cradle.gentleness = gentleness;
        world.cradles.add(cradle);
        return world.cradles.size() - 1;
    }

    int addCarrier() {
        state(world.carriers.size() < 3);
        save();
        world.carriers.add(new int[4]);
        return world.carriers.size() - 1;
    }

    int set(int setting, int value) {
        index(in(setting, 0, 3));
        int[][] ranges = {{1, 9}, {0, 9}, {1, 200}, {0, 5}};
        argument(in(value, ranges[setting][0], ranges[setting][1]));
        save();
        int before = world.settings[setting];
        world.settings[setting] = value;
        return before;
    }

    int setYear(int year) {
        argument(in(year, 1800, 2199));
        save();
        int before = world.year;
        world.year = year;
        return before;
    }

    int bring(int volume, int cradle, int carrier) {
        state(whyNot(volume, cradle, carrier) == 0);
        save();
        return world.way(volume, cradle, carrier);
    }

    int takeBack(int volume, int carrier) {
        index(isVolume(volume) && isCarrier(carrier));
        state(world.volumes.get(volume).cradle != NONE && world.carriers.get(carrier)[1] == 0 && world.log.size() < 60);
        save();
        return world.way(volume, NONE, carrier);
    }

    int pass(int minutes) {
        argument(in(minutes, 1, 500));
        state(world.minute + minutes <= 20000);
        save();
        int scans = 0;
        for (int i = 0; i < minutes; i++) {
            scans += world.tick();
        }
        return scans;
    }

    int reject(int volume, int leaf) {
        index(isVolume(volume) && in(leaf, 0, world.volumes.get(volume).condition.length - 1));
        Volume which = world.volumes.get(volume);
        state(which.condition[leaf] == 1);
        save();
        which.condition[leaf] = 2;
        world.rejects++;
        return countOf(which, 2);
    }

    private static int countOf(Volume volume, int condition) {
        int found = 0;
        for (int one : volume.condition) {
            found += one == condition ? 1 : 0;
        }
        return found;
    }

    int append(int code) {
        argument(in(code, 33, 126));
        state(buffer.length() < 60);
        buffer.append((char) code);
        return buffer.length();
    }

    int clearBuffer() {
        int before = buffer.length();
        buffer.setLength(0);
        return before;
    }

    /** All parts that a list can have, as texts. */
    private static final List<String> PARTS = allParts();

    private static List<String> allParts() {
        List<String> parts = new ArrayList<>();
        for (int first = 0; first < 40; first++) {
            for (int last = first; last < 40; last++) {
                String leaves = first == last ? "" + first : first + "-" + last;
                for (int year = 1800; year <= 2199; year++) {
                    parts.add(leaves + ":" + year);
                }
            }
        }
        return parts;
    }

    private static final java.util.Set<String> BEGINNINGS = allBeginnings();
    private static final java.util.Set<String> WHOLE = new java.util.HashSet<>(PARTS);

    private static java.util.Set<String> allBeginnings() {
        java.util.Set<String> all = new java.util.HashSet<>();
        for (String part : PARTS) {
            for (int length = 0; length <= part.length(); length++) {
                all.add(part.substring(0, length));
            }
        }
        return all;
    }

    /** Whether some list of bars begins with this text; "," stands nowhere within a part. */
    static boolean beginsList(String text) {
        String[] pieces = text.split(",", -1);
        for (int i = 0; i < pieces.length - 1; i++) {
            if (!WHOLE.contains(pieces[i])) {
                return false;
            }
        }
        return BEGINNINGS.contains(pieces[pieces.length - 1]);
    }

    static boolean isList(String text) {
        for (String piece : text.split(",", -1)) {
            if (!WHOLE.contains(piece)) {
                return false;
            }
        }
        return true;
    }

    int firstError() {
        for (int length = 1; length <= buffer.length(); length++) {
            if (!beginsList(buffer.substring(0, length))) {
                return length - 1;
            }
        }
        return buffer.length();
    }

    int bar(int volume) {
        index(isVolume(volume));
        argument(isList(buffer.toString()));
        Volume which = world.volumes.get(volume);
        int[] bars = which.bars.clone();
        boolean all = true;
        for (String part : buffer.toString().split(",")) {
            String[] sides = part.split(":");
            String[] ends = sides[0].split("-");
            for (int leaf = Integer.parseInt(ends[0]); leaf <= Integer.parseInt(ends[ends.length - 1]); leaf++) {
                if (leaf < bars.length) {
                    bars[leaf] = Integer.parseInt(sides[1]);
                } else {
                    all = false;
                }
            }
        }
        state(all);
        save();
        which.bars = bars;
        buffer.setLength(0);
        int barred = 0;
        for (int one : bars) {
            barred += one != 0 ? 1 : 0;
        }
        return barred;
    }

    int undo() {
        state(!saved.isEmpty());
        world = saved.removeLast();
        return saved.size();
    }

    int volume(int volume, int what) {
        index(isVolume(volume));
        argument(in(what, 0, 11));
        Volume it = world.volumes.get(volume);
        int open = 0;
        int scans = 0;
        for (int leaf = 0; leaf < it.condition.length; leaf++) {
            open += world.open(it, leaf) ? 1 : 0;
            scans += it.scans[leaf];
        }
        return new int[] {it.box, it.format, it.condition.length, it.state, it.strain, it.cradle, it.left, countOf(it, 1), countOf(it, 2), open, it.next(), scans}[what];
    }

    int leaf(int volume, int leaf, int what) {
        index(isVolume(volume) && in(leaf, 0, world.volumes.get(volume).condition.length - 1));
        argument(in(what, 0, 3));
        Volume it = world.volumes.get(volume);
        return new int[] {it.condition[leaf], it.scans[leaf], it.bars[leaf], world.open(it, leaf) ? 1 : 0}[what];
    }

    int cradle(int cradle, int what) {
        index(isCradle(cradle));
        argument(in(what, 0, 5));
        Cradle it = world.cradles.get(cradle);
        int rest = 0;
        if (it.volume == NONE) {
            rest = 1;
        } else if (world.volumes.get(it.volume).left > 0) {
            rest = 2;
        } else if (world.volumes.get(it.volume).state > it.gentleness) {
            rest = 3;
        } else if (world.volumes.get(it.volume).next() == NONE) {
            rest = 4;
        }
        return new int[] {it.size, it.gentleness, it.volume, it.work, it.scanned, rest}[what];
    }

    int carrier(int carrier, int what) {
        index(isCarrier(carrier));
        argument(in(what, 0, 3));
        return world.carriers.get(carrier)[what];
    }

    int log(int entry, int what) {
        index(in(entry, 0, world.log.size() - 1));
        argument(in(what, 0, 4));
        return world.log.get(entry)[what];
    }

    int whereAt(int volume, int minute) {
        index(isVolume(volume));
        argument(in(minute, 0, world.minute));
        int place = NONE;
        for (int[] entry : world.log) {
            if (entry[2] == volume && entry[0] <= minute) {
                place = entry[3];
            }
        }
        return place;
    }

    int count(int what) {
        argument(in(what, 0, 13));
        int[] totals = new int[12];
        for (int v = 0; v < world.volumes.size(); v++) {
            for (int i = 0; i < 12; i++) {
                totals[i] += volume(v, i);
            }
        }
        int free = 0;
        for (Cradle cradle : world.cradles) {
            free += cradle.volume == NONE ? 1 : 0;
        }
        return new int[] {world.volumes.size(), world.cradles.size(), world.carriers.size(), world.minute, world.year, world.log.size(),
            totals[2], totals[7], totals[8], totals[9], totals[11], world.rejects, free, saved.size()}[what];
    }

    int setting(int setting) {
        index(in(setting, 0, 3));
        return world.settings[setting];
    }

    int whyNot(int volume, int cradle, int carrier) {
        index(isVolume(volume) && isCradle(cradle) && isCarrier(carrier));
        Volume it = world.volumes.get(volume);
        Cradle place = world.cradles.get(cradle);
        boolean[] reasons = {it.cradle != NONE, it.cradle == NONE && it.left > 0, place.volume != NONE, place.size < it.format,
            it.state > place.gentleness, it.next() == NONE, world.carriers.get(carrier)[1] > 0, world.log.size() == 60};
        for (int i = 0; i < reasons.length; i++) {
            if (reasons[i]) {
                return i + 1;
            }
        }
        return 0;
    }

    int ifPassed(int minutes, int cradle) {
        index(cradle == NONE || isCradle(cradle));
        argument(in(minutes, 1, 500));
        World other = world.copy();
        int scans = 0;
        for (int i = 0; i < minutes; i++) {
            scans += other.tick();
        }
        return cradle == NONE ? scans : other.cradles.get(cradle).scanned - world.cradles.get(cradle).scanned;
    }

    /** Nothing that lies or comes to a cradle is done after a way of 96 minutes and 40 leaves of 27 minutes. */
    int doneIn() {
        World other = world.copy();
        int least = 0;
        for (int minutes = 0; minutes < 2100; minutes++) {
            if (other.anyWorks()) {
                least = minutes + 1;
            }
            other.tick();
        }
        return least > 2000 ? NONE : least;
    }

    int quickest(int volume) {
        index(isVolume(volume));
        int best = NONE;
        for (int carrier = world.carriers.size() - 1; carrier >= 0; carrier--) {
            if (world.carriers.get(carrier)[1] == 0 && (best == NONE || world.wayMinutes(volume, carrier) <= world.wayMinutes(volume, best))) {
                best = carrier;
            }
        }
        return best;
    }

    int bestLoad(int minutes, int what) {
        argument(in(minutes, 1, 100) && in(what, 0, 4));
        return bestLoads(minutes)[what];
    }

    /** Tries every load in the order of its numbers; a load is kept only if it brings more than those ahead of it. */
    private int[] bestLoads(int minutes) {
        int[][] scans = new int[4][12];
        for (int[] row : scans) {
            java.util.Arrays.fill(row, NONE);
        }
        for (int c = 0; c < world.cradles.size(); c++) {
            for (int v = 0; v < world.volumes.size(); v++) {
                scans[c][v] = scansIfBrought(c, v, minutes);
            }
        }
        int[] best = {NONE, NONE, NONE, NONE, NONE};
        int[] load = new int[4];
        for (load[0] = NONE; load[0] < 12; load[0]++) {
            for (load[1] = NONE; load[1] < 12; load[1]++) {
                for (load[2] = NONE; load[2] < 12; load[2]++) {
                    for (load[3] = NONE; load[3] < 12; load[3]++) {
                        int sum = sumOf(scans, load);
                        if (sum > best[0]) {
                            best = new int[] {sum, load[0], load[1], load[2], load[3]};
                        }
                    }
                }
            }
        }
        checkTogether(best, minutes);
        return best;
    }

    private static int sumOf(int[][] scans, int[] load) {
        int sum = 0;
        for (int c = 0; c < 4; c++) {
            if (load[c] == NONE) {
                continue;
            }
            for (int other = 0; other < c; other++) {
                if (load[other] == load[c]) {
                    return NONE;
                }
            }
            if (scans[c][load[c]] < 0) {
                return NONE;
            }
            sum += scans[c][load[c]];
        }
        return sum;
    }

    private int scansIfBrought(int cradle, int volume, int minutes) {
        Cradle place = world.cradles.get(cradle);
        Volume it = world.volumes.get(volume);
        if (place.volume != NONE || it.cradle != NONE || it.left > 0 || it.format > place.size || it.state > place.gentleness) {
            return NONE;
        }
        World other = world.copy();
        put(other, cradle, volume);
        for (int i = 0; i < minutes; i++) {
            other.tick();
        }
        return other.cradles.get(cradle).scanned - place.scanned;
    }

    private static void put(World other, int cradle, int volume) {
        other.cradles.get(cradle).volume = volume;
        other.cradles.get(cradle).work = 0;
        other.volumes.get(volume).cradle = cradle;
        other.volumes.get(volume).left = 1;
    }

    private void checkTogether(int[] best, int minutes) {
        World other = world.copy();
        int scans = 0;
        for (int c = 0; c < world.cradles.size(); c++) {
            if (best[c + 1] != NONE) {
                put(other, c, best[c + 1]);
                scans -= other.cradles.get(c).scanned;
            }
        }
        for (int i = 0; i < minutes; i++) {
            other.tick();
        }
        for (int c = 0; c < world.cradles.size(); c++) {
            scans += best[c + 1] != NONE ? other.cradles.get(c).scanned : 0;
        }
        if (scans != best[0]) {
            throw new AssertionError("the cradles do touch one another");
        }
    }

    double openShare() {
        return count(6) == 0 ? 0.0 : (double) count(9) / count(6);
    }

    private long hash;

    private void value(long value) {
        hash = 31 * hash + value;
    }

    long digest() {
        hash = 2341;
        for (int i = 0; i <= 13; i++) {
            value(count(i));
        }
        for (int i = 0; i <= 3; i++) {
            value(setting(i));
        }
        for (int v = 0; v < world.volumes.size(); v++) {
            for (int i = 0; i <= 11; i++) {
                value(volume(v, i));
            }
            for (int l = 0; l < world.volumes.get(v).condition.length; l++) {
                for (int i = 0; i <= 3; i++) {
                    value(leaf(v, l, i));
                }
            }
            value(whereAt(v, world.minute));
            value(quickest(v));
        }
        for (int c = 0; c < world.cradles.size(); c++) {
            for (int i = 0; i <= 5; i++) {
                value(cradle(c, i));
            }
            value(ifPassed(30, c));
        }
        for (int c = 0; c < world.carriers.size(); c++) {
            for (int i = 0; i <= 3; i++) {
                value(carrier(c, i));
            }
        }
        for (int e = 0; e < world.log.size(); e++) {
            for (int i = 0; i <= 4; i++) {
                value(log(e, i));
            }
        }
        value(doneIn());
        for (int best : bestLoads(20)) {
            value(best);
        }
        value(Double.doubleToLongBits(openShare()));
        value(buffer.length());
        for (int i = 0; i < buffer.length(); i++) {
            value(buffer.charAt(i));
        }
        return hash;
    }
}
