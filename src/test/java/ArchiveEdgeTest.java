/** Volumes, leaves, cradles, carriers, settings, the year, and what is told of them: the edge of each sentence. */
public final class ArchiveEdgeTest extends Checks {
    private static final Maker NEW = LeafCradles::new;
    private static final Maker MIXED = Checks::mixed;

    static void testMostVolumes() {
        about("There are at most 12 volumes, numbered from 0 in the order in which they came.");
        LeafCradles x = new LeafCradles();
        for (int i = 0; i < 12; i++) {
            due("addVolume", x.addVolume(i, 1, i + 1, 0), i);
        }
        refused("addVolume beyond 12", x, STATE, () -> x.addVolume(12, 1, 1, 0));
        for (int i = 0; i < 12; i++) {
            due("box of volume " + i, x.volume(i, 0), i);
            due("leaves of volume " + i, x.volume(i, 2), i + 1);
        }
        refused("volume(12, 0)", x, INDEX, () -> x.volume(12, 0));
        due("count(0)", x.count(0), 12);
        due("undo()", x.undo(), 5);
        refused("volume(11, 0) behind undo()", x, INDEX, () -> x.volume(11, 0));
        due("addVolume in the place that is free again", x.addVolume(19, 2, 40, 3), 11);
        dueAll("volume(11, what)", (y, what) -> y.volume(11, what), x, 19, 2, 40, 3, 0, -1, 0, 0, 0, 0, 0, 0);
    }

    static void testArgumentsOfVolumes() {
        about("A volume has a box, 0 to 19");
        range("addVolume, box", NEW, 0, 19, ARGUMENT, (x, v) -> x.addVolume(v, 1, 1, 0));
        about("a format, 1 to 3");
        range("addVolume, format", NEW, 1, 3, ARGUMENT, (x, v) -> x.addVolume(0, v, 1, 0));
        about("a number of leaves, 1 to 40");
        range("addVolume, leaves", NEW, 1, 40, ARGUMENT, (x, v) -> x.addVolume(0, 1, v, 0));
        about("a state, 0 to 3");
        range("addVolume, state", NEW, 0, 3, ARGUMENT, (x, v) -> x.addVolume(0, 1, 1, v));
    }

    static void testNewVolume() {
        about("and strain, at first 0 .. at first not scanned, and has a bar, a year, at first 0");
        LeafCradles x = new LeafCradles();
        x.addVolume(0, 1, 1, 0);
        x.addVolume(19, 3, 40, 3);
        dueAll("volume(0, what)", (y, what) -> y.volume(0, what), x, 0, 1, 1, 0, 0, -1, 0, 0, 0, 0, 0, 0);
        dueAll("volume(1, what)", (y, what) -> y.volume(1, what), x, 19, 3, 40, 3, 0, -1, 0, 0, 0, 0, 0, 0);
        dueAll("leaf(0, 0, what)", (y, what) -> y.leaf(0, 0, what), x, 0, 0, 0, 0);
        dueAll("leaf(1, 39, what)", (y, what) -> y.leaf(1, 39, what), x, 0, 0, 0, 0);
    }

    static void testLeavesAreNumbered() {
        about("Its leaves are numbered from 0.");
        Maker one = () -> laid(1, 0);
        Maker all = () -> laid(40, 0);
        range("leaf of 1", one, 0, 0, INDEX, (x, v) -> x.leaf(0, v, 0));
        range("leaf of 40", all, 0, 39, INDEX, (x, v) -> x.leaf(0, v, 0));
        LeafCradles x = new LeafCradles();
        x.addVolume(0, 1, 2, 0);
        x.addVolume(0, 1, 7, 0);
        refused("leaf 2 of the volume that has 2", x, INDEX, () -> x.leaf(0, 2, 0));
        due("leaf 6 of the volume that has 7", x.leaf(1, 6, 0), 0);
    }

    static void testOpenLeaf() {
        about("A leaf is open if it is good and its bar is not greater than the present year.");
        LeafCradles x = laid(6, 0);
        x.pass(5);
        append(x, "1:1999,2:2000,3:2001,4:2000");
        x.bar(0);
        x.reject(0, 4);
        dueAll("leaf(0, leaf, 3)", (y, leaf) -> y.leaf(0, leaf, 3), x, 1, 1, 1, 0, 0, 0);
        due("volume(0, 9)", x.volume(0, 9), 3);
        x.setYear(2001);
        dueAll("leaf(0, leaf, 3) in 2001", (y, leaf) -> y.leaf(0, leaf, 3), x, 1, 1, 1, 1, 0, 0);
        x.setYear(1999);
        dueAll("leaf(0, leaf, 3) in 1999", (y, leaf) -> y.leaf(0, leaf, 3), x, 1, 1, 0, 0, 0, 0);
        due("count(9)", x.count(9), 2);
    }

    static void testOpenInTheFirstAndTheLastYear() {
        about("A leaf is open if .. its bar is not greater than the present year: 1800 and 2199");
        LeafCradles x = laid(3, 0);
        x.pass(3);
        append(x, "0:1800,1:1801,2:2199");
        x.bar(0);
        x.setYear(1800);
        dueAll("leaf(0, leaf, 3) in 1800", (y, leaf) -> y.leaf(0, leaf, 3), x, 1, 0, 0);
        x.setYear(2198);
        dueAll("leaf(0, leaf, 3) in 2198", (y, leaf) -> y.leaf(0, leaf, 3), x, 1, 1, 0);
        x.setYear(2199);
        dueAll("leaf(0, leaf, 3) in 2199", (y, leaf) -> y.leaf(0, leaf, 3), x, 1, 1, 1);
    }

    static void testMostCradles() {
        about("There are at most 4 cradles .. numbered from 0");
        LeafCradles x = new LeafCradles();
        int[] sizes = {3, 1, 2, 3};
        for (int i = 0; i < 4; i++) {
            due("addCradle", x.addCradle(sizes[i], i % 3), i);
        }
        refused("addCradle beyond 4", x, STATE, () -> x.addCradle(1, 0));
        for (int i = 0; i < 4; i++) {
            int cradle = i;
            dueAll("cradle(" + i + ", what)", (y, what) -> y.cradle(cradle, what), x, sizes[i], i % 3, -1, 0, 0, 1);
        }
        refused("cradle(4, 0)", x, INDEX, () -> x.cradle(4, 0));
        due("count(1)", x.count(1), 4);
        x.undo();
        due("addCradle in the place that is free again", x.addCradle(2, 2), 3);
    }

    static void testArgumentsOfCradles() {
        about("A cradle has a size, 1 to 3");
        range("addCradle, size", NEW, 1, 3, ARGUMENT, (x, v) -> x.addCradle(v, 0));
        about("and a gentleness, 0 to 2");
        range("addCradle, gentleness", NEW, 0, 2, ARGUMENT, (x, v) -> x.addCradle(1, v));
    }

    static void testMostCarriers() {
        about("and at most 3 carriers .. numbered from 0 .. at first at box 0, and is busy for some minutes, at first 0");
        LeafCradles x = new LeafCradles();
        for (int i = 0; i < 3; i++) {
            int carrier = i;
            due("addCarrier", x.addCarrier(), i);
            dueAll("carrier(" + i + ", what)", (y, what) -> y.carrier(carrier, what), x, 0, 0, 0, 0);
        }
        refused("addCarrier beyond 3", x, STATE, x::addCarrier);
        refused("carrier(3, 0)", x, INDEX, () -> x.carrier(3, 0));
        due("count(2)", x.count(2), 3);
        x.undo();
        due("addCarrier in the place that is free again", x.addCarrier(), 2);
    }

    static void testSettings() {
        about("0: minutes for a leaf, 1 to 9, at first 1");
        setting(0, 1, 9, 1);
        about("1: more minutes by state, 0 to 9, at first 1");
        setting(1, 0, 9, 1);
        about("2: the limit for strain, 1 to 200, at first 30");
        setting(2, 1, 200, 30);
        about("3: minutes from box to box, 0 to 5, at first 1");
        setting(3, 0, 5, 1);
    }

    private static void setting(int setting, int least, int greatest, int first) {
        LeafCradles x = new LeafCradles();
        due("setting", x.setting(setting), first);
        due("set to the least", x.set(setting, least), first);
        due("set to the greatest", x.set(setting, greatest), least);
        due("setting", x.setting(setting), greatest);
        range("set, value", NEW, least, greatest, ARGUMENT, (y, v) -> y.set(setting, v));
    }

    static void testSettingsApart() {
        about("set: Changes a setting (and no other one)");
        LeafCradles x = new LeafCradles();
        for (int setting = 0; setting < 4; setting++) {
            x.set(setting, 5 - setting);
        }
        dueAll("setting", LeafCradles::setting, x, 5, 4, 3, 2);
        due("the year", x.count(4), 2000);
    }

    static void testNoSuchSetting() {
        about("Throws IndexOutOfBoundsException if there is no such setting");
        range("set, setting", NEW, 0, 3, INDEX, (x, v) -> x.set(v, 1));
        range("setting", NEW, 0, 3, INDEX, LeafCradles::setting);
    }

    static void testYear() {
        about("year: 1800 to 2199");
        range("setYear", NEW, 1800, 2199, ARGUMENT, LeafCradles::setYear);
        LeafCradles x = new LeafCradles();
        due("setYear(1800)", x.setYear(1800), 2000);
        due("setYear(2199)", x.setYear(2199), 1800);
        due("count(4)", x.count(4), 2199);
    }

    static void testNumbersOfProperties() {
        about("Throws IllegalArgumentException if what is not ..");
        range("volume, what", MIXED, 0, 11, ARGUMENT, (x, v) -> x.volume(0, v));
        range("leaf, what", MIXED, 0, 3, ARGUMENT, (x, v) -> x.leaf(0, 0, v));
        range("cradle, what", MIXED, 0, 5, ARGUMENT, (x, v) -> x.cradle(0, v));
        range("carrier, what", MIXED, 0, 3, ARGUMENT, (x, v) -> x.carrier(0, v));
        range("log, what", MIXED, 0, 4, ARGUMENT, (x, v) -> x.log(0, v));
        range("count", MIXED, 0, 13, ARGUMENT, LeafCradles::count);
    }

    static void testNoSuchVolume() {
        about("Throws IndexOutOfBoundsException if there is no such volume");
        range("volume", MIXED, 0, 2, INDEX, (x, v) -> x.volume(v, 0));
        range("leaf, volume", MIXED, 0, 2, INDEX, (x, v) -> x.leaf(v, 0, 0));
        range("whereAt, volume", MIXED, 0, 2, INDEX, (x, v) -> x.whereAt(v, 0));
        range("whyNot, volume", MIXED, 0, 2, INDEX, (x, v) -> x.whyNot(v, 0, 0));
        range("quickest", MIXED, 0, 2, INDEX, LeafCradles::quickest);
    }

    static void testNoSuchCradle() {
        about("Throws IndexOutOfBoundsException if there is no such cradle");
        range("cradle", MIXED, 0, 1, INDEX, (x, v) -> x.cradle(v, 0));
        range("whyNot, cradle", MIXED, 0, 1, INDEX, (x, v) -> x.whyNot(0, v, 0));
        range("ifPassed, cradle", MIXED, -1, 1, INDEX, (x, v) -> x.ifPassed(1, v));
    }

    static void testNoSuchCarrier() {
        about("Throws IndexOutOfBoundsException if there is no such carrier");
        range("carrier", MIXED, 0, 1, INDEX, (x, v) -> x.carrier(v, 0));
        range("whyNot, carrier", MIXED, 0, 1, INDEX, (x, v) -> x.whyNot(0, 0, v));
    }

    static void testNoSuchEntry() {
        about("Throws IndexOutOfBoundsException if there is no such entry");
        range("log", MIXED, 0, 2, INDEX, (x, v) -> x.log(v, 0));
        range("log of 60", () -> withEntries(60), 0, 59, INDEX, (x, v) -> x.log(v, 0));
        LeafCradles x = new LeafCradles();
        refused("log(0, 0) of none", x, INDEX, () -> x.log(0, 0));
    }

    static void testNewObject() {
        about("Creates an archive without volumes, cradles and carriers, in the year 2000, with an empty buffer.");
        LeafCradles x = new LeafCradles();
        dueAll("count", LeafCradles::count, x, 0, 0, 0, 0, 2000, 0, 0, 0, 0, 0, 0, 0, 0, 0);
        dueAll("setting", LeafCradles::setting, x, 1, 1, 30, 1);
        due("firstError()", x.firstError(), 0);
        due("clearBuffer()", x.clearBuffer(), 0);
        due("doneIn()", x.doneIn(), 0);
        due("ifPassed(500, NONE)", x.ifPassed(500, -1), 0);
        dueAll("bestLoad(100, what)", (y, what) -> y.bestLoad(100, what), x, 0, -1, -1, -1, -1);
        due("openShare()", Double.doubleToLongBits(x.openShare()), 0);
        refused("undo()", x, STATE, x::undo);
        refused("volume(0, 0)", x, INDEX, () -> x.volume(0, 0));
        refused("leaf(0, 0, 0)", x, INDEX, () -> x.leaf(0, 0, 0));
        refused("cradle(0, 0)", x, INDEX, () -> x.cradle(0, 0));
        refused("carrier(0, 0)", x, INDEX, () -> x.carrier(0, 0));
        refused("whereAt(0, 0)", x, INDEX, () -> x.whereAt(0, 0));
        refused("quickest(0)", x, INDEX, () -> x.quickest(0));
        refused("whyNot(0, 0, 0)", x, INDEX, () -> x.whyNot(0, 0, 0));
        refused("bring(0, 0, 0)", x, INDEX, () -> x.bring(0, 0, 0));
        refused("takeBack(0, 0)", x, INDEX, () -> x.takeBack(0, 0));
        refused("reject(0, 0)", x, INDEX, () -> x.reject(0, 0));
        refused("bar(0)", x, INDEX, () -> x.bar(0));
        due("pass(1)", x.pass(1), 0);
        due("count(3)", x.count(3), 1);
    }

    static void testTwoObjects() {
        about("Creates an archive (each object is one of its own)");
        LeafCradles x = mixed();
        LeafCradles y = new LeafCradles();
        due("digest() of a new one", y.digest(), new LeafCradles().digest());
        y.addVolume(1, 1, 1, 1);
        append(y, "7");
        due("digest() of the other", x.digest(), mixed().digest());
    }

    static void testPropertiesOfVolumes() {
        about("5: the cradle .., NONE if none; 6: the minutes that are left of its way, 0 if it is on none; 10: .. wherever the volume is, NONE if there is none to scan");
        LeafCradles x = mixed();
        dueAll("on a cradle", (y, what) -> y.volume(0, what), x, 0, 1, 5, 0, 3, 0, 0, 2, 1, 2, 1, 3);
        dueAll("in its box", (y, what) -> y.volume(1, what), x, 4, 3, 3, 1, 0, -1, 0, 0, 0, 0, 0, 0);
        dueAll("on its way back", (y, what) -> y.volume(2, what), x, 6, 1, 2, 0, 0, -1, 1, 0, 0, 0, 0, 0);
        LeafCradles done = laid(2, 0);
        done.pass(2);
        due("leaf to scan, of none", done.volume(0, 10), -1);
        done.takeBack(0, 0);
        due("leaf to scan, of none, on its way back", done.volume(0, 10), -1);
        done.reject(0, 1);
        due("leaf to scan on its way back", done.volume(0, 10), 1);
        LeafCradles sealed = new LeafCradles();
        sealed.addVolume(0, 1, 1, 3);
        due("leaf to scan of a sealed volume", sealed.volume(0, 10), 0);
    }

    static void testPropertiesOfCradles() {
        about("2: the volume that belongs to it, NONE if it is free; .. 5: .. the first one of these that applies");
        LeafCradles x = mixed();
        dueAll("at work", (y, what) -> y.cradle(0, what), x, 2, 1, 0, 4, 3, 0);
        dueAll("free", (y, what) -> y.cradle(1, what), x, 1, 0, -1, 0, 0, 1);
        LeafCradles late = new LeafCradles();
        late.addVolume(1, 1, 1, 0);
        late.addCradle(1, 0);
        late.addCarrier();
        late.set(2, 1);
        late.bring(0, 0, 0);
        due("it does not lie there yet", late.cradle(0, 5), 2);
        late.pass(1);
        due("one minute ahead of that", late.cradle(0, 5), 2);
        late.pass(1);
        due("it lies there", late.cradle(0, 5), 0);
        due("the last leaf, which makes it worn", late.pass(1), 1);
        due("its state comes ahead of its leaves", late.cradle(0, 5), 3);
        LeafCradles done = laid(1, 0);
        done.pass(1);
        due("no leaf to scan", done.cradle(0, 5), 4);
        done.reject(0, 0);
        due("a faulty leaf", done.cradle(0, 5), 0);
        done.takeBack(0, 0);
        due("free again", done.cradle(0, 5), 1);
        due("leaves that were scanned on it so far", done.cradle(0, 4), 1);
    }

    static void testPropertiesOfCarriersAndLeaves() {
        about("2: ways with a volume so far; 3: the minutes that these took, together; leaf 1: how often it was scanned so far");
        LeafCradles x = mixed();
        dueAll("carrier(0, what)", (y, what) -> y.carrier(0, what), x, 0, 0, 1, 1);
        dueAll("carrier(1, what)", (y, what) -> y.carrier(1, what), x, 6, 1, 2, 8);
        dueAll("leaf(0, 0, what)", (y, what) -> y.leaf(0, 0, what), x, 1, 1, 0, 1);
        dueAll("leaf(0, 1, what)", (y, what) -> y.leaf(0, 1, what), x, 2, 1, 0, 0);
        dueAll("leaf(0, 3, what)", (y, what) -> y.leaf(0, 3, what), x, 0, 0, 0, 0);
        due("a minute, the faulty leaf anew", x.pass(1), 1);
        dueAll("leaf(0, 1, what) anew", (y, what) -> y.leaf(0, 1, what), x, 1, 2, 0, 1);
    }

    static void testCounts() {
        about("count: what: 0: volumes; .. 13: saved states");
        dueAll("count", LeafCradles::count, mixed(), 3, 2, 2, 8, 2000, 3, 10, 2, 1, 2, 3, 1, 1, 5);
        LeafCradles full = new LeafCradles();
        for (int i = 0; i < 12; i++) {
            full.addVolume(i, 1, 40, 0);
        }
        for (int i = 0; i < 4; i++) {
            full.addCradle(1, 0);
        }
        for (int i = 0; i < 3; i++) {
            full.addCarrier();
        }
        dueAll("count of a full archive", LeafCradles::count, full, 12, 4, 3, 0, 2000, 0, 480, 0, 0, 0, 0, 0, 4, 6);
    }

    public static void main(String[] args) {
        runAll(ArchiveEdgeTest.class);
    }
}
