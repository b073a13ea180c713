/**
 * An archive that is digitised leaf by leaf: volumes, cradles, carriers, a log of their ways,
 * bars up to a year, what would be, and undo. The face checks what it is given; the classes
 * inside hold the archive, read the text of bars and look for the best load.
 */
public final class LeafCradles {
    public static final int NONE = -1;

    private static final int MOST_VOLUMES = 12;
    private static final int MOST_CRADLES = 4;
    private static final int MOST_CARRIERS = 3;
    private static final int MOST_LEAVES = 40;
    private static final int MOST_ENTRIES = 60;
    private static final int MOST_CODES = 60;
    private static final int SHORTEST_PART = 6;
    private static final int MOST_SAVES = 6;
    private static final int SETTINGS = 4;
    private static final int LAST_MINUTE = 20000;
    private static final int FIRST_YEAR = 1800;
    private static final int LAST_YEAR = 2199;
    private static final int DONE_LIMIT = 2000;

    private static final int[] LEAST_SETTING = {1, 0, 1, 0};
    private static final int[] GREATEST_SETTING = {9, 9, 200, 5};

    private static final int NOT_SCANNED = 0;
    private static final int GOOD = 1;
    private static final int FAULTY = 2;

    private final Archive archive;
    private final BarText text;
    private final LoadPlan plan;

    public LeafCradles() {
        archive = new Archive();
        text = new BarText();
        plan = new LoadPlan();
    }

    // ---- what there is in the archive

    public int addVolume(int box, int format, int leaves, int state) throws IllegalArgumentException, IllegalStateException {
        requireRange(box, 0, 19);
        requireRange(format, 1, 3);
        requireRange(leaves, 1, MOST_LEAVES);
        requireRange(state, 0, 3);
        if (archive.number(Archive.VOLUMES) >= MOST_VOLUMES) {
            throw new IllegalStateException("there are 12 volumes");
        }
        archive.save();
        return archive.newVolume(box, format, leaves, state);
    }

    public int addCradle(int size, int gentleness) throws IllegalArgumentException, IllegalStateException {
        requireRange(size, 1, 3);
        requireRange(gentleness, 0, 2);
        if (archive.number(Archive.CRADLES) >= MOST_CRADLES) {
            throw new IllegalStateException("there are 4 cradles");
        }
        archive.save();
        return archive.newCradle(size, gentleness);
    }

    public int addCarrier() throws IllegalStateException {
        if (archive.number(Archive.CARRIERS) >= MOST_CARRIERS) {
            throw new IllegalStateException("there are 3 carriers");
        }
        archive.save();
        return archive.newCarrier();
    }

    public int set(int setting, int value) throws IndexOutOfBoundsException, IllegalArgumentException {
        requireIndex(setting, SETTINGS);
        requireRange(value, leastOfSetting(setting), greatestOfSetting(setting));
        archive.save();
        return archive.replaceNumber(Archive.SETTING + setting, value);
    }

    public int setYear(int year) throws IllegalArgumentException {
        requireRange(year, FIRST_YEAR, LAST_YEAR);
        archive.save();
        return archive.replaceNumber(Archive.YEAR, year);
    }

    // ---- ways and minutes

    public int bring(int volume, int cradle, int carrier) throws IndexOutOfBoundsException, IllegalStateException {
        requireVolume(volume);
        requireCradle(cradle);
        requireCarrier(carrier);
        if (archive.reasonAgainst(volume, cradle, carrier) != 0) {
            throw new IllegalStateException("there is a reason against it");
        }
        archive.save();
        return archive.startBringing(volume, cradle, carrier);
    }

    public int takeBack(int volume, int carrier) throws IndexOutOfBoundsException, IllegalStateException {
        requireVolume(volume);
        requireCarrier(carrier);
        if (!archive.mayTakeBack(volume, carrier)) {
            throw new IllegalStateException("it cannot be brought back by this carrier now");
        }
        archive.save();
        return archive.startTakingBack(volume, carrier);
    }

    public int pass(int minutes) throws IllegalArgumentException, IllegalStateException {
        requireRange(minutes, 1, 500);
        if (archive.number(Archive.MINUTE) + minutes > LAST_MINUTE) {
            throw new IllegalStateException("the number of the minute would be above 20000");
        }
        archive.save();
        return archive.letMinutesPass(minutes);
    }

    public int reject(int volume, int leaf) throws IndexOutOfBoundsException, IllegalStateException {
        requireVolume(volume);
        requireIndex(leaf, archive.volumeFact(volume, Archive.LEAVES));
        if (archive.leafFact(volume, leaf, Archive.CONDITION) != GOOD) {
            throw new IllegalStateException("the leaf is not good");
        }
        archive.save();
        return archive.findFaulty(volume, leaf);
    }

    // ---- texts

    public int append(int code) throws IllegalArgumentException, IllegalStateException {
        requireRange(code, 33, 126);
        if (text.length() >= MOST_CODES) {
            throw new IllegalStateException("the buffer has 60 characters");
        }
        return text.add(code);
    }

    public int clearBuffer() {
        return text.empty();
    }

    public int firstError() {
        return text.read();
    }

    public int bar(int volume) throws IndexOutOfBoundsException, IllegalArgumentException, IllegalStateException {
        requireVolume(volume);
        if (text.read() < text.length() || !text.isComplete()) {
            throw new IllegalArgumentException("the buffer is not a complete list of bars");
        }
        if (text.greatestLeaf() >= archive.volumeFact(volume, Archive.LEAVES)) {
            throw new IllegalStateException("the volume does not have all of these leaves");
        }
        archive.save();
        for (int part = 0; part < text.partCount(); part++) {
            int first = text.partFact(part, BarText.FIRST);
            int last = text.partFact(part, BarText.LAST);
            archive.barLeaves(volume, first, last, text.partFact(part, BarText.YEAR));
        }
        text.empty();
        return archive.barredLeaves(volume);
    }

    public int undo() throws IllegalStateException {
        if (archive.saves() <= 0) {
            throw new IllegalStateException("there is no saved state");
        }
        return archive.restore();
    }

    // ---- what there is

    public int volume(int volume, int what) throws IndexOutOfBoundsException, IllegalArgumentException {
        requireVolume(volume);
        requireRange(what, 0, 11);
        return archive.volumeFact(volume, what);
    }

    public int leaf(int volume, int leaf, int what) throws IndexOutOfBoundsException, IllegalArgumentException {
        requireVolume(volume);
        requireIndex(leaf, archive.volumeFact(volume, Archive.LEAVES));
        requireRange(what, 0, 3);
        return archive.leafFact(volume, leaf, what);
    }

    public int cradle(int cradle, int what) throws IndexOutOfBoundsException, IllegalArgumentException {
        requireCradle(cradle);
        requireRange(what, 0, 5);
        return archive.cradleFact(cradle, what);
    }

    public int carrier(int carrier, int what) throws IndexOutOfBoundsException, IllegalArgumentException {
        requireCarrier(carrier);
        requireRange(what, 0, 3);
        return archive.carrierFact(carrier, what);
    }

    public int log(int entry, int what) throws IndexOutOfBoundsException, IllegalArgumentException {
        requireIndex(entry, archive.number(Archive.ENTRIES));
        requireRange(what, 0, 4);
        return archive.entryFact(entry, what);
    }

    public int whereAt(int volume, int minute) throws IndexOutOfBoundsException, IllegalArgumentException {
        requireVolume(volume);
        requireRange(minute, 0, archive.number(Archive.MINUTE));
        return archive.placeAt(volume, minute);
    }

    public int count(int what) throws IllegalArgumentException {
        requireRange(what, 0, 13);
        return archive.total(what);
    }

    public int setting(int setting) throws IndexOutOfBoundsException {
        requireIndex(setting, SETTINGS);
        return archive.number(Archive.SETTING + setting);
    }

    // ---- what would be; nothing is changed, and the limit of 20000 minutes does not matter

    public int whyNot(int volume, int cradle, int carrier) throws IndexOutOfBoundsException {
        requireVolume(volume);
        requireCradle(cradle);
        requireCarrier(carrier);
        return archive.reasonAgainst(volume, cradle, carrier);
    }

    public int ifPassed(int minutes, int cradle) throws IndexOutOfBoundsException, IllegalArgumentException {
        if (cradle != NONE) {
            requireCradle(cradle);
        }
        requireRange(minutes, 1, 500);
        return cradle == NONE ? archive.scansIn(minutes) : archive.scansOnCradleIn(cradle, minutes);
    }

    public int doneIn() {
        return archive.minutesUntilDone();
    }

    public int quickest(int volume) throws IndexOutOfBoundsException {
        requireVolume(volume);
        return archive.quickestCarrier(volume);
    }

    public int bestLoad(int minutes, int what) throws IllegalArgumentException {
        requireRange(minutes, 1, 100);
        requireRange(what, 0, 4);
        plan.make(archive, minutes);
        return plan.answer(what);
    }

    public double openShare() {
        return archive.shareOfOpenLeaves();
    }

    public long digest() {
        long hash = 2341L;
        for (int what = 0; what <= 13; what++) {
            hash = mix(hash, archive.total(what));
        }
        for (int setting = 0; setting < SETTINGS; setting++) {
            hash = mix(hash, archive.number(Archive.SETTING + setting));
        }
        hash = mixVolumes(hash);
        hash = mixCradles(hash);
        hash = mixCarriers(hash);
        hash = mixEntries(hash);
        hash = mix(hash, archive.minutesUntilDone());
        plan.make(archive, 20);
        for (int what = 0; what <= 4; what++) {
            hash = mix(hash, plan.answer(what));
        }
        hash = mix(hash, bitsOfShare(archive.shareOfOpenLeaves()));
        return mixText(hash);
    }

    private static long mix(long hash, long value) {
        return 31L * hash + value;
    }

    private long mixVolumes(long start) {
        long hash = start;
        for (int volume = 0; volume < archive.number(Archive.VOLUMES); volume++) {
            for (int what = 0; what <= 11; what++) {
                hash = mix(hash, archive.volumeFact(volume, what));
            }
            for (int leaf = 0; leaf < archive.volumeFact(volume, Archive.LEAVES); leaf++) {
                for (int what = 0; what <= 3; what++) {
                    hash = mix(hash, archive.leafFact(volume, leaf, what));
                }
            }
            hash = mix(hash, archive.placeAt(volume, archive.number(Archive.MINUTE)));
            hash = mix(hash, archive.quickestCarrier(volume));
        }
        return hash;
    }

    private long mixCradles(long start) {
        long hash = start;
        for (int cradle = 0; cradle < archive.number(Archive.CRADLES); cradle++) {
            for (int what = 0; what <= 5; what++) {
                hash = mix(hash, archive.cradleFact(cradle, what));
            }
            hash = mix(hash, archive.scansOnCradleIn(cradle, 30));
        }
        return hash;
    }

    private long mixCarriers(long start) {
        long hash = start;
        for (int carrier = 0; carrier < archive.number(Archive.CARRIERS); carrier++) {
            for (int what = 0; what <= 3; what++) {
                hash = mix(hash, archive.carrierFact(carrier, what));
            }
        }
        return hash;
    }

    private long mixEntries(long start) {
        long hash = start;
        for (int entry = 0; entry < archive.number(Archive.ENTRIES); entry++) {
            for (int what = 0; what <= 4; what++) {
                hash = mix(hash, archive.entryFact(entry, what));
            }
        }
        return hash;
    }

    private long mixText(long start) {
        long hash = mix(start, text.length());
        for (int index = 0; index < text.length(); index++) {
            hash = mix(hash, text.codeAt(index));
        }
        return hash;
    }

    /** The bits of a double from 0 to 1, by arithmetic, as Double stands outside the language rules. */
    private static long bitsOfShare(double share) {
        if (share <= 0.0) {
            return 0L;
        }
        double scaled = share;
        long exponent = 1023L;
        for (int step = 0; step < 1022 && scaled < 1.0; step++) {
            scaled = scaled * 2.0;
            exponent--;
        }
        long fraction = (long) ((scaled - 1.0) * 4503599627370496.0);
        return (exponent << 52) | fraction;
    }

    private static int leastOfSetting(int setting) {
        return setting >= 0 && setting < LEAST_SETTING.length ? LEAST_SETTING[setting] : NONE;
    }

    private static int greatestOfSetting(int setting) {
        return setting >= 0 && setting < GREATEST_SETTING.length ? GREATEST_SETTING[setting] : NONE;
    }

    private static void requireRange(int value, int least, int greatest) throws IllegalArgumentException {
        if (value < least || value > greatest) {
            throw new IllegalArgumentException("an argument is out of range");
        }
    }

    private static void requireIndex(int index, int size) throws IndexOutOfBoundsException {
        if (index < 0 || index >= size) {
            throw new IndexOutOfBoundsException("there is none with this number");
        }
    }

    private void requireVolume(int volume) throws IndexOutOfBoundsException {
        requireIndex(volume, archive.number(Archive.VOLUMES));
    }

    private void requireCradle(int cradle) throws IndexOutOfBoundsException {
        requireIndex(cradle, archive.number(Archive.CRADLES));
    }

    private void requireCarrier(int carrier) throws IndexOutOfBoundsException {
        requireIndex(carrier, archive.number(Archive.CARRIERS));
    }

    /** Rows of numbers, and copies of them all for undo; every index is tested here. */
    private static final class Table {
        // no table is longer or wider, so that the number of its cells stays an int
        private static final int LONGEST_SIDE = 200;

        private final int rows;
        private final int width;
        private final int[] cells;
        private final int[] copies;

        Table(int rows, int width, int copies) {
            this.rows = bounded(rows, LONGEST_SIDE);
            this.width = bounded(width, LONGEST_SIDE);
            this.cells = new int[this.rows * this.width];
            this.copies = new int[bounded(copies, MOST_SAVES) * this.cells.length];
        }

        private static int bounded(int value, int greatest) {
            return Math.max(0, Math.min(value, greatest));
        }

        int at(int row, int column) {
            if (row < 0 || row >= rows || column < 0 || column >= width) {
                return NONE;
            }
            return cells[row * width + column];
        }

        void put(int row, int column, int value) {
            if (row >= 0 && row < rows && column >= 0 && column < width) {
                cells[row * width + column] = value;
            }
        }

        void add(int row, int column, int more) {
            if (row >= 0 && row < rows && column >= 0 && column < width) {
                cells[row * width + column] += more;
            }
        }

        void copyRow(int from, int to) {
            if (from >= 0 && from < rows && to >= 0 && to < rows) {
                System.arraycopy(cells, from * width, cells, to * width, width);
            }
        }

        void keep(int slot) {
            if (hasCopy(slot)) {
                System.arraycopy(cells, 0, copies, slot * cells.length, cells.length);
            }
        }

        void fetch(int slot) {
            if (hasCopy(slot)) {
                System.arraycopy(copies, slot * cells.length, cells, 0, cells.length);
            }
        }

        private boolean hasCopy(int slot) {
            return slot >= 0 && slot < MOST_SAVES && (slot + 1) * cells.length <= copies.length;
        }
    }

    /**
     * What there is, and what the minutes do with it. Cradles do not touch one another's volumes,
     * so each one works through its minutes alone, scan by scan.
     */
    private static final class Archive {
        // columns of volumes, as the face numbers them
        static final int BOX = 0;
        static final int FORMAT = 1;
        static final int LEAVES = 2;
        static final int STATE = 3;
        static final int STRAIN = 4;
        static final int PLACE = 5;
        static final int WAY = 6;
        // properties of leaves, as the face numbers them
        static final int CONDITION = 0;
        static final int SCANS = 1;
        static final int BAR = 2;
        static final int LEAF_COLUMNS = 3;
        // columns of cradles, as the face numbers them
        static final int SIZE = 0;
        static final int GENTLENESS = 1;
        static final int HELD = 2;
        static final int WORK = 3;
        static final int SCANNED = 4;
        // columns of carriers, as the face numbers them
        static final int STAND = 0;
        static final int BUSY = 1;
        static final int WAYS = 2;
        static final int WAY_MINUTES = 3;
        // columns of the log, as the face numbers them
        static final int BEGAN = 0;
        static final int BY = 1;
        static final int MOVED = 2;
        static final int GOAL = 3;
        static final int TOOK = 4;
        // single numbers; the first six as count numbers them
        static final int VOLUMES = 0;
        static final int CRADLES = 1;
        static final int CARRIERS = 2;
        static final int MINUTE = 3;
        static final int YEAR = 4;
        static final int ENTRIES = 5;
        static final int FOUND_FAULTY = 6;
        static final int SETTING = 7;
        // one row more than the archive can have: there a volume and a cradle are tried out
        static final int TRIAL_VOLUME = MOST_VOLUMES;
        static final int TRIAL_CRADLE = MOST_CRADLES;

        private final Table volumes = new Table(MOST_VOLUMES + 1, 7, MOST_SAVES);
        private final Table leaves = new Table(MOST_VOLUMES + 1, MOST_LEAVES * LEAF_COLUMNS, MOST_SAVES);
        private final Table cradles = new Table(MOST_CRADLES + 1, 5, MOST_SAVES);
        private final Table carriers = new Table(MOST_CARRIERS, 4, MOST_SAVES);
        private final Table entries = new Table(MOST_ENTRIES, 5, MOST_SAVES);
        private final Table numbers = new Table(1, SETTING + SETTINGS, MOST_SAVES);
        private int oldestSave = 0;
        private int saveCount = 0;

        Archive() {
            numbers.put(0, YEAR, 2000);
            numbers.put(0, SETTING, 1);
            numbers.put(0, SETTING + 1, 1);
            numbers.put(0, SETTING + 2, 30);
            numbers.put(0, SETTING + 3, 1);
        }

        int number(int which) {
            return numbers.at(0, which);
        }

        int replaceNumber(int which, int value) {
            int previous = numbers.at(0, which);
            numbers.put(0, which, value);
            return previous;
        }

        // saved states

        int saves() {
            return saveCount;
        }

        void save() {
            int slot = (oldestSave + saveCount) % MOST_SAVES;
            volumes.keep(slot);
            leaves.keep(slot);
            cradles.keep(slot);
            carriers.keep(slot);
            entries.keep(slot);
            numbers.keep(slot);
            if (saveCount < MOST_SAVES) {
                saveCount++;
            } else {
                oldestSave = (oldestSave + 1) % MOST_SAVES;
            }
        }

        int restore() {
            saveCount--;
            int slot = (oldestSave + saveCount) % MOST_SAVES;
            volumes.fetch(slot);
            leaves.fetch(slot);
            cradles.fetch(slot);
            carriers.fetch(slot);
            entries.fetch(slot);
            numbers.fetch(slot);
            return saveCount;
        }

        // what comes in; a row that is not used yet is all 0

        int newVolume(int box, int format, int leafCount, int state) {
            int volume = number(VOLUMES);
            volumes.put(volume, BOX, box);
            volumes.put(volume, FORMAT, format);
            volumes.put(volume, LEAVES, leafCount);
            volumes.put(volume, STATE, state);
            volumes.put(volume, PLACE, NONE);
            numbers.add(0, VOLUMES, 1);
            return volume;
        }

        int newCradle(int size, int gentleness) {
            int cradle = number(CRADLES);
            cradles.put(cradle, SIZE, size);
            cradles.put(cradle, GENTLENESS, gentleness);
            cradles.put(cradle, HELD, NONE);
            numbers.add(0, CRADLES, 1);
            return cradle;
        }

        int newCarrier() {
            int carrier = number(CARRIERS);
            numbers.add(0, CARRIERS, 1);
            return carrier;
        }

        // facts

        int volumeFact(int volume, int what) {
            switch (what) {
                case 7:
                    return leavesInCondition(volume, GOOD);
                case 8:
                    return leavesInCondition(volume, FAULTY);
                case 9:
                    return openLeaves(volume);
                case 10:
                    return nextLeaf(volume);
                case 11:
                    return scansOf(volume);
                default:
                    return volumes.at(volume, what);
            }
        }

        int leafFact(int volume, int leaf, int what) {
            if (what == 3) {
                return isOpen(volume, leaf) ? 1 : 0;
            }
            return leaves.at(volume, leaf * LEAF_COLUMNS + what);
        }

        int cradleFact(int cradle, int what) {
            return what == 5 ? reasonOfRest(cradle) : cradles.at(cradle, what);
        }

        int carrierFact(int carrier, int what) {
            return carriers.at(carrier, what);
        }

        int entryFact(int entry, int what) {
            return entries.at(entry, what);
        }

        int total(int what) {
            switch (what) {
                case 6:
                    return sumOverVolumes(LEAVES);
                case 7:
                case 8:
                case 9:
                    return sumOverVolumes(what);
                case 10:
                    return sumOverVolumes(11);
                case 11:
                    return number(FOUND_FAULTY);
                case 12:
                    return freeCradles();
                case 13:
                    return saveCount;
                default:
                    return number(what);
            }
        }

        private int sumOverVolumes(int what) {
            int sum = 0;
            for (int volume = 0; volume < number(VOLUMES); volume++) {
                sum += volumeFact(volume, what);
            }
            return sum;
        }

        double shareOfOpenLeaves() {
            int all = sumOverVolumes(LEAVES);
            return all <= 0 ? 0.0 : (double) sumOverVolumes(9) / (double) all;
        }

        private int freeCradles() {
            int free = 0;
            for (int cradle = 0; cradle < number(CRADLES); cradle++) {
                if (isFree(cradle)) {
                    free++;
                }
            }
            return free;
        }

        private int leavesInCondition(int volume, int condition) {
            int found = 0;
            for (int leaf = 0; leaf < volumes.at(volume, LEAVES); leaf++) {
                if (leaves.at(volume, leaf * LEAF_COLUMNS + CONDITION) == condition) {
                    found++;
                }
            }
            return found;
        }

        private int openLeaves(int volume) {
            int open = 0;
            for (int leaf = 0; leaf < volumes.at(volume, LEAVES); leaf++) {
                if (isOpen(volume, leaf)) {
                    open++;
                }
            }
            return open;
        }

        private int scansOf(int volume) {
            int scans = 0;
            for (int leaf = 0; leaf < volumes.at(volume, LEAVES); leaf++) {
                scans += leaves.at(volume, leaf * LEAF_COLUMNS + SCANS);
            }
            return scans;
        }

        private boolean isOpen(int volume, int leaf) {
            int column = leaf * LEAF_COLUMNS;
            return leaves.at(volume, column + CONDITION) == GOOD && leaves.at(volume, column + BAR) <= numbers.at(0, YEAR);
        }

        /** The leaf to scan: the lowest faulty one, else the lowest that is not scanned, else NONE. */
        private int nextLeaf(int volume) {
            int unscanned = NONE;
            for (int leaf = 0; leaf < volumes.at(volume, LEAVES); leaf++) {
                int condition = leaves.at(volume, leaf * LEAF_COLUMNS + CONDITION);
                if (condition == FAULTY) {
                    return leaf;
                }
                if (condition == NOT_SCANNED && unscanned == NONE) {
                    unscanned = leaf;
                }
            }
            return unscanned;
        }

        boolean isFree(int cradle) {
            return cradles.at(cradle, HELD) == NONE;
        }

        boolean isInItsBox(int volume) {
            return volumes.at(volume, PLACE) == NONE && volumes.at(volume, WAY) == 0;
        }

        boolean isLargeEnough(int cradle, int volume) {
            return volumes.at(volume, FORMAT) <= cradles.at(cradle, SIZE);
        }

        boolean isGentleEnough(int cradle, int volume) {
            return volumes.at(volume, STATE) <= cradles.at(cradle, GENTLENESS);
        }

        private int reasonOfRest(int cradle) {
            int volume = cradles.at(cradle, HELD);
            if (volume == NONE) {
                return 1;
            }
            if (volumes.at(volume, WAY) > 0) {
                return 2;
            }
            if (!isGentleEnough(cradle, volume)) {
                return 3;
            }
            return nextLeaf(volume) == NONE ? 4 : 0;
        }

        int reasonAgainst(int volume, int cradle, int carrier) {
            if (volumes.at(volume, PLACE) != NONE) {
                return 1;
            }
            if (volumes.at(volume, WAY) > 0) {
                return 2;
            }
            if (!isFree(cradle)) {
                return 3;
            }
            if (!isLargeEnough(cradle, volume)) {
                return 4;
            }
            if (!isGentleEnough(cradle, volume)) {
                return 5;
            }
            if (nextLeaf(volume) == NONE) {
                return 6;
            }
            if (carriers.at(carrier, BUSY) > 0) {
                return 7;
            }
            return number(ENTRIES) >= MOST_ENTRIES ? 8 : 0;
        }

        boolean mayTakeBack(int volume, int carrier) {
            return volumes.at(volume, PLACE) != NONE && carriers.at(carrier, BUSY) == 0 && number(ENTRIES) < MOST_ENTRIES;
        }

        int placeAt(int volume, int minute) {
            for (int entry = number(ENTRIES) - 1; entry >= 0; entry--) {
                if (entries.at(entry, MOVED) == volume && entries.at(entry, BEGAN) <= minute) {
                    return entries.at(entry, GOAL);
                }
            }
            return NONE;
        }

        // ways

        private int minutesOfWay(int volume, int carrier) {
            int distance = Math.abs(carriers.at(carrier, STAND) - volumes.at(volume, BOX));
            return number(SETTING + 3) * distance + 1;
        }

        int quickestCarrier(int volume) {
            int quickest = NONE;
            int fewest = 0;
            for (int carrier = 0; carrier < number(CARRIERS); carrier++) {
                int minutes = minutesOfWay(volume, carrier);
                if (carriers.at(carrier, BUSY) == 0 && (quickest == NONE || minutes < fewest)) {
                    quickest = carrier;
                    fewest = minutes;
                }
            }
            return quickest;
        }

        int startBringing(int volume, int cradle, int carrier) {
            volumes.put(volume, PLACE, cradle);
            cradles.put(cradle, HELD, volume);
            cradles.put(cradle, WORK, 0);
            return startWay(volume, cradle, carrier);
        }

        int startTakingBack(int volume, int carrier) {
            int cradle = volumes.at(volume, PLACE);
            volumes.put(volume, PLACE, NONE);
            cradles.put(cradle, HELD, NONE);
            cradles.put(cradle, WORK, 0);
            return startWay(volume, NONE, carrier);
        }

        private int startWay(int volume, int goal, int carrier) {
            int minutes = minutesOfWay(volume, carrier);
            volumes.put(volume, WAY, minutes);
            carriers.put(carrier, STAND, volumes.at(volume, BOX));
            carriers.put(carrier, BUSY, minutes);
            carriers.add(carrier, WAYS, 1);
            carriers.add(carrier, WAY_MINUTES, minutes);
            int entry = number(ENTRIES);
            entries.put(entry, BEGAN, number(MINUTE));
            entries.put(entry, BY, carrier);
            entries.put(entry, MOVED, volume);
            entries.put(entry, GOAL, goal);
            entries.put(entry, TOOK, minutes);
            numbers.add(0, ENTRIES, 1);
            return minutes;
        }

        // minutes

        int letMinutesPass(int minutes) {
            int scans = 0;
            for (int cradle = 0; cradle < number(CRADLES); cradle++) {
                int before = cradles.at(cradle, SCANNED);
                if (!isFree(cradle)) {
                    int volume = cradles.at(cradle, HELD);
                    workFor(cradle, volume, minutes - volumes.at(volume, WAY));
                }
                scans += cradles.at(cradle, SCANNED) - before;
            }
            for (int carrier = 0; carrier < number(CARRIERS); carrier++) {
                carriers.put(carrier, BUSY, Math.max(0, carriers.at(carrier, BUSY) - minutes));
            }
            for (int volume = 0; volume < number(VOLUMES); volume++) {
                volumes.put(volume, WAY, Math.max(0, volumes.at(volume, WAY) - minutes));
            }
            numbers.add(0, MINUTE, minutes);
            return scans;
        }

        /**
         * Lets a cradle work on a volume for the minutes in which it lies there, from one scan to
         * the next, and tells in how many of them it worked. What stops it can only come by a scan.
         */
        private int workFor(int cradle, int volume, int minutes) {
            int worked = 0;
            for (int turn = 0; turn < MOST_LEAVES && worked < minutes; turn++) {
                int leaf = nextLeaf(volume);
                if (leaf == NONE || !isGentleEnough(cradle, volume)) {
                    return worked;
                }
                int needed = number(SETTING) + number(SETTING + 1) * volumes.at(volume, STATE);
                // also a leaf whose work is more than enough by new settings waits for the next minute
                int toScan = Math.max(1, needed - cradles.at(cradle, WORK));
                if (toScan > minutes - worked) {
                    cradles.add(cradle, WORK, minutes - worked);
                    return minutes;
                }
                worked += toScan;
                cradles.put(cradle, WORK, 0);
                cradles.add(cradle, SCANNED, 1);
                scan(volume, leaf);
            }
            return worked;
        }

        private void scan(int volume, int leaf) {
            leaves.put(volume, leaf * LEAF_COLUMNS + CONDITION, GOOD);
            leaves.add(volume, leaf * LEAF_COLUMNS + SCANS, 1);
            volumes.add(volume, STRAIN, 1);
            if (volumes.at(volume, STRAIN) >= numbers.at(0, SETTING + 2)) {
                volumes.put(volume, STRAIN, 0);
                volumes.add(volume, STATE, 1);
            }
        }

        // leaves

        int findFaulty(int volume, int leaf) {
            leaves.put(volume, leaf * LEAF_COLUMNS + CONDITION, FAULTY);
            numbers.add(0, FOUND_FAULTY, 1);
            return leavesInCondition(volume, FAULTY);
        }

        void barLeaves(int volume, int first, int last, int year) {
            for (int leaf = first; leaf <= last && leaf < MOST_LEAVES; leaf++) {
                leaves.put(volume, leaf * LEAF_COLUMNS + BAR, year);
            }
        }

        int barredLeaves(int volume) {
            int barred = 0;
            for (int leaf = 0; leaf < volumes.at(volume, LEAVES); leaf++) {
                if (leaves.at(volume, leaf * LEAF_COLUMNS + BAR) != 0) {
                    barred++;
                }
            }
            return barred;
        }

        // what would be

        private void copyForTrial(int cradle, int volume) {
            volumes.copyRow(volume, TRIAL_VOLUME);
            leaves.copyRow(volume, TRIAL_VOLUME);
            cradles.copyRow(cradle, TRIAL_CRADLE);
        }

        /** The scans on a cradle if the volume lay there for these minutes. */
        int scansIfThere(int cradle, int volume, int minutes) {
            copyForTrial(cradle, volume);
            workFor(TRIAL_CRADLE, TRIAL_VOLUME, minutes);
            return cradles.at(TRIAL_CRADLE, SCANNED) - cradles.at(cradle, SCANNED);
        }

        int scansOnCradleIn(int cradle, int minutes) {
            if (isFree(cradle)) {
                return 0;
            }
            int volume = cradles.at(cradle, HELD);
            return scansIfThere(cradle, volume, minutes - volumes.at(volume, WAY));
        }

        int scansIn(int minutes) {
            int scans = 0;
            for (int cradle = 0; cradle < number(CRADLES); cradle++) {
                scans += scansOnCradleIn(cradle, minutes);
            }
            return scans;
        }

        int minutesUntilDone() {
            int latest = 0;
            for (int cradle = 0; cradle < number(CRADLES); cradle++) {
                if (!isFree(cradle)) {
                    int volume = cradles.at(cradle, HELD);
                    copyForTrial(cradle, volume);
                    int worked = workFor(TRIAL_CRADLE, TRIAL_VOLUME, DONE_LIMIT + 1);
                    // a way at whose end there is nothing to do needs no waiting
                    int done = worked == 0 ? 0 : volumes.at(volume, WAY) + worked;
                    latest = Math.max(latest, done);
                }
            }
            return latest > DONE_LIMIT ? NONE : latest;
        }
    }

    /** The buffer, read as a list of bars from left to right. */
    private static final class BarText {
        // what is read, and the columns of a part that was read
        static final int FIRST = 0;
        static final int LAST = 1;
        static final int YEAR = 2;
        static final int YEAR_DIGITS = 4;

        private final int[] codes = new int[MOST_CODES];
        private final Table parts = new Table(MOST_CODES / SHORTEST_PART, 3, 0);
        private int length = 0;
        private int partCount = 0;
        private int reading = FIRST;
        private int value = 0;
        private int digits = 0;
        private int first = 0;
        private int last = 0;

        int length() {
            return length;
        }

        int codeAt(int index) {
            return index >= 0 && index < length && index < codes.length ? codes[index] : NONE;
        }

        int add(int code) {
            if (length >= 0 && length < codes.length) {
                codes[length] = code;
                length++;
            }
            return length;
        }

        int empty() {
            int before = length;
            length = 0;
            return before;
        }

        /** Reads it all anew, and tells the index of the first syntax error, or the length. */
        int read() {
            partCount = 0;
            begin(FIRST);
            for (int index = 0; index < length; index++) {
                if (!accepts(codeAt(index))) {
                    return index;
                }
            }
            return length;
        }

        /** Whether what was read without an error ends with a whole part. */
        boolean isComplete() {
            return reading == YEAR && digits == YEAR_DIGITS;
        }

        int partCount() {
            return partCount;
        }

        int partFact(int part, int column) {
            return parts.at(part, column);
        }

        int greatestLeaf() {
            int greatest = NONE;
            for (int part = 0; part < partCount; part++) {
                greatest = Math.max(greatest, parts.at(part, LAST));
            }
            return greatest;
        }

        private void begin(int what) {
            reading = what;
            value = 0;
            digits = 0;
        }

        private boolean accepts(int code) {
            switch (code) {
                case '-':
                    return acceptsDash();
                case ':':
                    return acceptsColon();
                case ',':
                    return acceptsComma();
                default:
                    return code >= '0' && code <= '9' && acceptsDigit(code - '0');
            }
        }

        private boolean acceptsDash() {
            // behind the last leaf there is no greater one
            if (reading != FIRST || digits == 0 || value >= MOST_LEAVES - 1) {
                return false;
            }
            first = value;
            begin(LAST);
            return true;
        }

        private boolean acceptsColon() {
            if (reading == YEAR || digits == 0 || value < leastNumber()) {
                return false;
            }
            if (reading == FIRST) {
                first = value;
            }
            last = value;
            begin(YEAR);
            return true;
        }

        private boolean acceptsComma() {
            if (!isComplete()) {
                return false;
            }
            begin(FIRST);
            return true;
        }

        private boolean acceptsDigit(int digit) {
            boolean leadingZero = digits > 0 && value == 0;
            int longer = value * 10 + digit;
            if (leadingZero || !beginsNumber(longer, leastNumber(), greatestNumber())) {
                return false;
            }
            value = longer;
            digits++;
            if (isComplete()) {
                keepPart();
            }
            return true;
        }

        private int leastNumber() {
            if (reading == YEAR) {
                return FIRST_YEAR;
            }
            return reading == LAST ? first + 1 : 0;
        }

        private int greatestNumber() {
            return reading == YEAR ? LAST_YEAR : MOST_LEAVES - 1;
        }

        /** Whether a number from least to greatest begins with these digits, or is these. */
        private static boolean beginsNumber(int digitsSoFar, int least, int greatest) {
            if (digitsSoFar == 0) {
                return least <= 0;
            }
            int lowest = digitsSoFar;
            int highest = digitsSoFar;
            for (int more = 0; more < YEAR_DIGITS && lowest <= greatest; more++) {
                if (highest >= least) {
                    return true;
                }
                lowest = lowest * 10;
                highest = highest * 10 + 9;
            }
            return false;
        }

        private void keepPart() {
            parts.put(partCount, FIRST, first);
            parts.put(partCount, LAST, last);
            parts.put(partCount, YEAR, value);
            partCount++;
        }
    }

    /** The search for the volumes that bring the most scans to the free cradles. */
    private static final class LoadPlan {
        private final Table gains = new Table(MOST_CRADLES, MOST_VOLUMES, 0);
        /** The most that the cradles from a number on could bring if they need not share. */
        private final Table hopes = new Table(1, MOST_CRADLES + 1, 0);
        private final Table chosen = new Table(2, MOST_CRADLES, 0);
        private int most = 0;

        private static final int NOW = 0;
        private static final int BEST = 1;

        void make(Archive archive, int minutes) {
            for (int cradle = MOST_CRADLES - 1; cradle >= 0; cradle--) {
                int greatest = 0;
                for (int volume = 0; volume < MOST_VOLUMES; volume++) {
                    int gain = gainOf(archive, cradle, volume, minutes);
                    gains.put(cradle, volume, gain);
                    greatest = Math.max(greatest, gain);
                }
                hopes.put(0, cradle, hopes.at(0, cradle + 1) + greatest);
            }
            most = NONE;
            fill(this, 0, 0, 0);
        }

        int answer(int what) {
            return what == 0 ? most : chosen.at(BEST, what - 1);
        }

        private static int gainOf(Archive archive, int cradle, int volume, int minutes) {
            boolean there = cradle < archive.number(Archive.CRADLES) && volume < archive.number(Archive.VOLUMES);
            if (!there || !archive.isFree(cradle) || !archive.isInItsBox(volume)) {
                return 0;
            }
            if (!archive.isLargeEnough(cradle, volume) || !archive.isGentleEnough(cradle, volume)) {
                return 0;
            }
            // the first of the minutes is the way
            return archive.scansIfThere(cradle, volume, minutes - 1);
        }

        /**
         * Tries NONE and then the volumes in their order, so that of equal sums the one that is
         * told stands first; a volume without a gain never does better than NONE.
         */
        private static void fill(LoadPlan plan, int cradle, int used, int sum) {
            if (cradle >= MOST_CRADLES) {
                plan.note(sum);
                return;
            }
            if (sum + plan.hopes.at(0, cradle) <= plan.most) {
                return;
            }
            plan.chosen.put(NOW, cradle, NONE);
            fill(plan, cradle + 1, used, sum);
            for (int volume = 0; volume < MOST_VOLUMES; volume++) {
                int gain = plan.gains.at(cradle, volume);
                if (gain > 0 && (used & (1 << volume)) == 0) {
                    plan.chosen.put(NOW, cradle, volume);
                    fill(plan, cradle + 1, used | (1 << volume), sum + gain);
                }
            }
        }

        private void note(int sum) {
            if (sum > most) {
                most = sum;
                chosen.copyRow(NOW, BEST);
            }
        }
    }
}
