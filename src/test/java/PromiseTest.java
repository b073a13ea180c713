/** Each promise once by hand: ordinary inputs, the edges that the document names, and wrong inputs. */
public final class PromiseTest extends Checks {
    /** What undo brings back is what was there; it is done once and taken back. */
    private static void undoable(String what, LeafCradles x, Call call) {
        long before = hashWithoutSaves(x);
        int saves = x.count(13);
        call.answer();
        due("saved states behind " + what, x.count(13), Math.min(6, saves + 1));
        due("undo() of " + what, x.undo(), Math.min(6, saves + 1) - 1);
        due("the state behind undo() of " + what, hashWithoutSaves(x), before);
    }

    private static long hashWithoutSaves(LeafCradles x) {
        long hash = 7;
        for (int what = 0; what <= 12; what++) {
            hash = 31 * hash + x.count(what);
        }
        for (int v = 0; v < x.count(0); v++) {
            for (int what = 0; what <= 11; what++) {
                hash = 31 * hash + x.volume(v, what);
            }
            for (int l = 0; l < x.volume(v, 2); l++) {
                hash = 31 * hash + x.leaf(v, l, 0) + 7 * x.leaf(v, l, 1) + 77 * x.leaf(v, l, 2);
            }
        }
        for (int c = 0; c < x.count(1); c++) {
            for (int what = 0; what <= 5; what++) {
                hash = 31 * hash + x.cradle(c, what);
            }
        }
        for (int c = 0; c < x.count(2); c++) {
            for (int what = 0; what <= 3; what++) {
                hash = 31 * hash + x.carrier(c, what);
            }
        }
        for (int setting = 0; setting <= 3; setting++) {
            hash = 31 * hash + x.setting(setting);
        }
        return hash;
    }

    /** Volume 0 in box 3 (4 leaves, sound), 1 in box 10 (6, worn), 2 in box 0 (2, brittle, large); 2 cradles, 2 carriers. */
    private static LeafCradles small() {
        LeafCradles x = new LeafCradles();
        x.addVolume(3, 1, 4, 0);
        x.addVolume(10, 2, 6, 1);
        x.addVolume(0, 3, 2, 2);
        x.addCradle(2, 1);
        x.addCradle(3, 2);
        x.addCarrier();
        x.addCarrier();
        return x;
    }

    private static void testNew() {
        about("promise 1");
        LeafCradles x = new LeafCradles();
        for (int what = 0; what <= 13; what++) {
            due("count(" + what + ")", x.count(what), what == 4 ? 2000 : 0);
        }
        int[] settings = {1, 1, 30, 1};
        for (int setting = 0; setting <= 3; setting++) {
            due("setting(" + setting + ")", x.setting(setting), settings[setting]);
        }
        due("clearBuffer()", x.clearBuffer(), 0);
    }

    private static void testAddVolume() {
        about("promise 2");
        LeafCradles x = new LeafCradles();
        due("addVolume", x.addVolume(19, 3, 40, 3), 0);
        int[] facts = {19, 3, 40, 3, 0, -1, 0, 0, 0, 0, 0, 0};
        for (int what = 0; what < facts.length; what++) {
            due("volume(0, " + what + ")", x.volume(0, what), facts[what]);
        }
        undoable("addVolume", x, () -> x.addVolume(1, 2, 3, 0));
        int[][] bad = {{-1, 1, 1, 0}, {20, 1, 1, 0}, {0, 0, 1, 0}, {0, 4, 1, 0}, {0, 1, 0, 0}, {0, 1, 41, 0}, {0, 1, 1, -1}, {0, 1, 1, 4}};
        for (int[] b : bad) {
            refused("addVolume" + java.util.Arrays.toString(b), x, ARGUMENT, () -> x.addVolume(b[0], b[1], b[2], b[3]));
        }
        for (int i = 1; i < 12; i++) {
            due("addVolume", x.addVolume(0, 1, 1, 0), i);
        }
        refused("addVolume 13", x, STATE, () -> x.addVolume(0, 1, 1, 0));
        refused("addVolume 13, bad", x, ARGUMENT, () -> x.addVolume(0, 1, 41, 0));
    }

    private static void testAddCradle() {
        about("promise 3");
        LeafCradles x = new LeafCradles();
        due("addCradle", x.addCradle(3, 2), 0);
        int[] facts = {3, 2, -1, 0, 0, 1};
        for (int what = 0; what < facts.length; what++) {
            due("cradle(0, " + what + ")", x.cradle(0, what), facts[what]);
        }
        undoable("addCradle", x, () -> x.addCradle(1, 0));
        refused("addCradle(0, 0)", x, ARGUMENT, () -> x.addCradle(0, 0));
        refused("addCradle(4, 0)", x, ARGUMENT, () -> x.addCradle(4, 0));
        refused("addCradle(1, -1)", x, ARGUMENT, () -> x.addCradle(1, -1));
        refused("addCradle(1, 3)", x, ARGUMENT, () -> x.addCradle(1, 3));
        for (int i = 1; i < 4; i++) {
            due("addCradle", x.addCradle(1, 0), i);
        }
        refused("addCradle 5", x, STATE, () -> x.addCradle(1, 0));
        refused("addCradle 5, bad", x, ARGUMENT, () -> x.addCradle(1, 3));
    }

    private static void testAddCarrier() {
        about("promise 4");
        LeafCradles x = new LeafCradles();
        undoable("addCarrier", x, x::addCarrier);
        for (int i = 0; i < 3; i++) {
            due("addCarrier", x.addCarrier(), i);
            for (int what = 0; what <= 3; what++) {
                due("carrier(" + i + ", " + what + ")", x.carrier(i, what), 0);
            }
        }
        refused("addCarrier 4", x, STATE, x::addCarrier);
    }

    private static void testSettings() {
        about("promise 5");
        LeafCradles x = new LeafCradles();
        int[] least = {1, 0, 1, 0};
        int[] greatest = {9, 9, 200, 5};
        int[] first = {1, 1, 30, 1};
        for (int i = 0; i < 4; i++) {
            int setting = i;
            due("set", x.set(i, least[i]), first[i]);
            due("set", x.set(i, greatest[i]), least[i]);
            due("setting", x.setting(i), greatest[i]);
            refused("set below", x, ARGUMENT, () -> x.set(setting, least[setting] - 1));
            refused("set above", x, ARGUMENT, () -> x.set(setting, greatest[setting] + 1));
            undoable("set to the same", x, () -> x.set(setting, greatest[setting]));
        }
        refused("set(-1, 500)", x, INDEX, () -> x.set(-1, 500));
        refused("set(4, 1)", x, INDEX, () -> x.set(4, 1));
        about("promise 23");
        refused("setting(-1)", x, INDEX, () -> x.setting(-1));
        refused("setting(4)", x, INDEX, () -> x.setting(4));
        about("promise 6");
        due("setYear(1800)", x.setYear(1800), 2000);
        due("setYear(2199)", x.setYear(2199), 1800);
        due("count(4)", x.count(4), 2199);
        undoable("setYear", x, () -> x.setYear(1900));
        refused("setYear(1799)", x, ARGUMENT, () -> x.setYear(1799));
        refused("setYear(2200)", x, ARGUMENT, () -> x.setYear(2200));
    }

    private static void testBring() {
        about("promise 7");
        LeafCradles x = small();
        undoable("bring", x, () -> x.bring(1, 0, 0));
        due("bring(1, 0, 0)", x.bring(1, 0, 0), 11);
        due("its cradle", x.volume(1, 5), 0);
        due("its way", x.volume(1, 6), 11);
        due("the cradle's volume", x.cradle(0, 2), 1);
        due("where the carrier stands", x.carrier(0, 0), 10);
        due("how long", x.carrier(0, 1), 11);
        refused("bring of a volume on a cradle", x, STATE, () -> x.bring(1, 1, 1));
        refused("bring by one who is busy", x, STATE, () -> x.bring(0, 1, 0));
        refused("bring(-1, 0, 0)", x, INDEX, () -> x.bring(-1, 0, 0));
        refused("bring(3, 0, 0)", x, INDEX, () -> x.bring(3, 0, 0));
        refused("bring(1, 2, 0)", x, INDEX, () -> x.bring(1, 2, 0));
        refused("bring(1, -1, 0)", x, INDEX, () -> x.bring(1, -1, 0));
        refused("bring(1, 0, 2)", x, INDEX, () -> x.bring(1, 0, 2));
        refused("bring(1, 0, -1)", x, INDEX, () -> x.bring(1, 0, -1));
        x.pass(11);
        x.set(3, 5);
        due("bring from box to box", x.bring(0, 1, 0), 36);
        x.set(3, 0);
        due("the way keeps its minutes", x.volume(0, 6), 36);
        due("a way without minutes from box to box", x.takeBack(0, 1), 1);
    }

    private static void testTakeBack() {
        about("promise 8");
        LeafCradles x = small();
        refused("takeBack from no cradle", x, STATE, () -> x.takeBack(0, 0));
        x.bring(0, 1, 0);
        refused("takeBack by one who is busy", x, STATE, () -> x.takeBack(0, 0));
        refused("takeBack(3, 0)", x, INDEX, () -> x.takeBack(3, 0));
        refused("takeBack(0, 2)", x, INDEX, () -> x.takeBack(0, 2));
        refused("takeBack(-1, 0)", x, INDEX, () -> x.takeBack(-1, 0));
        refused("takeBack(0, -1)", x, INDEX, () -> x.takeBack(0, -1));
        undoable("takeBack", x, () -> x.takeBack(0, 1));
        x.pass(2);
        due("left of the way", x.volume(0, 6), 2);
        due("takeBack on the way", x.takeBack(0, 1), 4);
        due("its cradle", x.volume(0, 5), -1);
        due("its way back", x.volume(0, 6), 4);
        due("the cradle is free at once", x.cradle(1, 2), -1);
        due("the reason on the way back", x.whyNot(0, 0, 0), 2);
        x.pass(3);
        refused("takeBack on the way back", x, STATE, () -> x.takeBack(0, 0));
        x.pass(1);
        due("in its box", x.volume(0, 6), 0);
        due("and may be brought", x.whyNot(0, 0, 0), 0);
    }

    private static void testWorkIsLost() {
        about("promise 8");
        LeafCradles x = laid(4, 0);
        x.set(0, 5);
        x.pass(3);
        due("work", x.cradle(0, 3), 3);
        x.takeBack(0, 0);
        due("work behind leaving", x.cradle(0, 3), 0);
        x.pass(1);
        x.bring(0, 0, 0);
        x.pass(1);
        due("no work while it is on its way", x.cradle(0, 3), 0);
        x.pass(4);
        due("work anew", x.cradle(0, 3), 4);
        due("the fifth minute", x.pass(1), 1);
    }

    private static void testPass() {
        about("promise 9");
        LeafCradles x = laid(10, 1);
        due("pass(1)", x.pass(1), 0);
        due("work", x.cradle(0, 3), 1);
        due("pass(3)", x.pass(3), 2);
        due("count(3)", x.count(3), 5);
        undoable("pass", x, () -> x.pass(500));
        refused("pass(0)", x, ARGUMENT, () -> x.pass(0));
        refused("pass(501)", x, ARGUMENT, () -> x.pass(501));
        refused("pass(-1)", x, ARGUMENT, () -> x.pass(-1));
        due("pass(500)", x.pass(500), 8);
        for (int i = 0; i < 38; i++) {
            x.pass(500);
        }
        due("count(3)", x.count(3), 19505);
        refused("pass above 20000", x, STATE, () -> x.pass(496));
        refused("pass above 20000, and out of range", x, ARGUMENT, () -> x.pass(501));
        due("pass up to 20000", x.pass(495), 0);
        due("count(3)", x.count(3), 20000);
        refused("pass from 20000", x, STATE, () -> x.pass(1));
        due("ifPassed beyond 20000", x.ifPassed(500, -1), 0);
    }

    private static void testStrain() {
        about("promise 9");
        LeafCradles x = laid(12, 0);
        x.set(2, 3);
        due("pass(3)", x.pass(3), 3);
        due("state", x.volume(0, 3), 1);
        due("strain", x.volume(0, 4), 0);
        due("slower now", x.pass(5), 2);
        x.set(2, 1);
        due("pass(1)", x.pass(1), 1);
        due("state by a lower limit", x.volume(0, 3), 2);
        due("three minutes for a leaf", x.pass(3), 1);
        due("sealed", x.volume(0, 3), 3);
        due("no more", x.pass(100), 0);
        due("reason", x.cradle(0, 5), 3);
        due("work stays 0", x.cradle(0, 3), 0);
        due("doneIn()", x.doneIn(), 0);
        due("leaf to scan, wherever it is", x.volume(0, 10), 7);
    }

    private static void testNewSettingsInWork() {
        about("promise 9");
        LeafCradles x = laid(12, 0);
        x.set(0, 9);
        x.pass(5);
        x.set(0, 2);
        due("more than enough work waits for a minute", x.cradle(0, 3), 5);
        due("pass(1)", x.pass(1), 1);
        due("work", x.cradle(0, 3), 0);
        due("pass(2)", x.pass(2), 1);
    }

    private static void testReject() {
        about("promise 10");
        LeafCradles x = laid(4, 0);
        refused("reject of a leaf that is not scanned", x, STATE, () -> x.reject(0, 0));
        x.pass(3);
        undoable("reject", x, () -> x.reject(0, 1));
        due("reject(0, 2)", x.reject(0, 2), 1);
        due("reject(0, 1)", x.reject(0, 1), 2);
        refused("reject of a faulty leaf", x, STATE, () -> x.reject(0, 1));
        refused("reject(0, 4)", x, INDEX, () -> x.reject(0, 4));
        refused("reject(0, -1)", x, INDEX, () -> x.reject(0, -1));
        refused("reject(1, 0)", x, INDEX, () -> x.reject(1, 0));
        due("found faulty so far", x.count(11), 2);
        due("faulty", x.count(8), 2);
        due("good", x.count(7), 1);
        due("the lowest faulty one comes first", x.volume(0, 10), 1);
        x.pass(1);
        due("then the next faulty one", x.volume(0, 10), 2);
        due("scanned anew", x.leaf(0, 1, 1), 2);
        x.pass(1);
        due("then one that is not scanned", x.volume(0, 10), 3);
        x.pass(1);
        due("then none", x.volume(0, 10), -1);
        due("its leaves were scanned", x.volume(0, 11), 6);
        due("on this cradle", x.cradle(0, 4), 6);
        due("together", x.count(10), 6);
        due("reason", x.cradle(0, 5), 4);
    }

    private static void testBuffer() {
        about("promise 11");
        LeafCradles x = new LeafCradles();
        refused("append(32)", x, ARGUMENT, () -> x.append(32));
        refused("append(127)", x, ARGUMENT, () -> x.append(127));
        due("append(33)", x.append(33), 1);
        due("append(126)", x.append(126), 2);
        due("saved states", x.count(13), 0);
        for (int i = 3; i <= 60; i++) {
            due("append", x.append('1'), i);
        }
        refused("append 61", x, STATE, () -> x.append('1'));
        refused("append 61, bad", x, ARGUMENT, () -> x.append(32));
        about("promise 13");
        due("firstError()", x.firstError(), 0);
        about("promise 12");
        due("clearBuffer()", x.clearBuffer(), 60);
        due("clearBuffer()", x.clearBuffer(), 0);
        about("promise 13");
        due("firstError() of an empty buffer", x.firstError(), 0);
        append(x, "3-1");
        due("firstError() of 3-1", x.firstError(), 3);
        append(x, ":");
        due("firstError() of 3-1:", x.firstError(), 3);
    }

    private static void testBar() {
        about("promise 14");
        LeafCradles x = laid(10, 0);
        x.pass(10);
        refused("bar(0) of nothing", x, ARGUMENT, () -> x.bar(0));
        refused("bar(1) of nothing", x, INDEX, () -> x.bar(1));
        refused("bar(-1) of nothing", x, INDEX, () -> x.bar(-1));
        append(x, "0-3:2001,2:1999,9:2000");
        due("bar(0)", x.bar(0), 5);
        due("the buffer is empty then", x.clearBuffer(), 0);
        int[] bars = {2001, 2001, 1999, 2001, 0, 0, 0, 0, 0, 2000};
        for (int leaf = 0; leaf < 10; leaf++) {
            due("bar of leaf " + leaf, x.leaf(0, leaf, 2), bars[leaf]);
            due("openness of leaf " + leaf, x.leaf(0, leaf, 3), bars[leaf] <= 2000 ? 1 : 0);
        }
        due("open leaves", x.volume(0, 9), 7);
        x.setYear(2001);
        due("open leaves a year later", x.count(9), 10);
        append(x, "4:1800");
        due("other bars stay", x.bar(0), 6);
        append(x, "8-10:1900");
        refused("bar(0) of leaf 10", x, STATE, () -> x.bar(0));
        append(x, ",");
        refused("bar(0) of an incomplete list", x, ARGUMENT, () -> x.bar(0));
        x.clearBuffer();
        append(x, "10:1900,1:1900");
        refused("bar(0) of leaf 10 and 1", x, STATE, () -> x.bar(0));
        x.clearBuffer();
        append(x, "5:1900");
        int saves = x.count(13);
        x.bar(0);
        due("saved states", x.count(13), Math.min(6, saves + 1));
        append(x, "7");
        x.undo();
        due("bar of leaf 5 behind undo", x.leaf(0, 5, 2), 0);
        due("the buffer stays as it is", x.clearBuffer(), 1);
    }

    private static void testUndo() {
        about("promise 15");
        LeafCradles x = new LeafCradles();
        refused("undo() of nothing", x, STATE, x::undo);
        for (int year = 1901; year <= 1909; year++) {
            x.setYear(year);
        }
        due("saved states", x.count(13), 6);
        for (int left = 5; left >= 0; left--) {
            due("undo()", x.undo(), left);
            due("year", x.count(4), 1903 + left);
        }
        refused("undo() of no more", x, STATE, x::undo);
        x.setYear(1950);
        x.setYear(1960);
        due("undo()", x.undo(), 1);
        x.setYear(1970);
        due("undo()", x.undo(), 1);
        due("year", x.count(4), 1950);
    }

    private static void testUndoOfWays() {
        about("promise 15");
        LeafCradles x = small();
        x.bring(0, 0, 0);
        x.pass(5);
        x.undo();
        x.undo();
        due("entries", x.count(5), 0);
        due("ways", x.carrier(0, 2), 0);
        x.bring(1, 1, 1);
        due("the new entry", x.log(0, 2), 1);
        refused("log(1, 0)", x, INDEX, () -> x.log(1, 0));
        due("whereAt(0, 0)", x.whereAt(0, 0), -1);
    }

    private static void testWrongNumbers() {
        LeafCradles x = small();
        x.bring(0, 0, 0);
        about("promise 16");
        refused("volume(-1, 99)", x, INDEX, () -> x.volume(-1, 99));
        refused("volume(3, 0)", x, INDEX, () -> x.volume(3, 0));
        refused("volume(0, -1)", x, ARGUMENT, () -> x.volume(0, -1));
        refused("volume(0, 12)", x, ARGUMENT, () -> x.volume(0, 12));
        about("promise 17");
        refused("leaf(3, 0, 9)", x, INDEX, () -> x.leaf(3, 0, 9));
        refused("leaf(0, 4, 9)", x, INDEX, () -> x.leaf(0, 4, 9));
        refused("leaf(0, -1, 0)", x, INDEX, () -> x.leaf(0, -1, 0));
        refused("leaf(0, 0, 4)", x, ARGUMENT, () -> x.leaf(0, 0, 4));
        refused("leaf(0, 0, -1)", x, ARGUMENT, () -> x.leaf(0, 0, -1));
        about("promise 18");
        refused("cradle(2, 9)", x, INDEX, () -> x.cradle(2, 9));
        refused("cradle(-1, 0)", x, INDEX, () -> x.cradle(-1, 0));
        refused("cradle(0, 6)", x, ARGUMENT, () -> x.cradle(0, 6));
        refused("cradle(0, -1)", x, ARGUMENT, () -> x.cradle(0, -1));
        about("promise 19");
        refused("carrier(2, 9)", x, INDEX, () -> x.carrier(2, 9));
        refused("carrier(-1, 0)", x, INDEX, () -> x.carrier(-1, 0));
        refused("carrier(0, 4)", x, ARGUMENT, () -> x.carrier(0, 4));
        refused("carrier(0, -1)", x, ARGUMENT, () -> x.carrier(0, -1));
        about("promise 20");
        refused("log(1, 9)", x, INDEX, () -> x.log(1, 9));
        refused("log(-1, 0)", x, INDEX, () -> x.log(-1, 0));
        refused("log(0, 5)", x, ARGUMENT, () -> x.log(0, 5));
        refused("log(0, -1)", x, ARGUMENT, () -> x.log(0, -1));
        about("promise 21");
        refused("whereAt(3, 1)", x, INDEX, () -> x.whereAt(3, 1));
        refused("whereAt(0, 1)", x, ARGUMENT, () -> x.whereAt(0, 1));
        refused("whereAt(0, -1)", x, ARGUMENT, () -> x.whereAt(0, -1));
        about("promise 22");
        refused("count(-1)", x, ARGUMENT, () -> x.count(-1));
        refused("count(14)", x, ARGUMENT, () -> x.count(14));
        about("promise 24");
        refused("whyNot(3, 0, 0)", x, INDEX, () -> x.whyNot(3, 0, 0));
        refused("whyNot(0, 2, 0)", x, INDEX, () -> x.whyNot(0, 2, 0));
        refused("whyNot(0, 0, 2)", x, INDEX, () -> x.whyNot(0, 0, 2));
        about("promise 25");
        refused("ifPassed(0, 2)", x, INDEX, () -> x.ifPassed(0, 2));
        refused("ifPassed(1, -2)", x, INDEX, () -> x.ifPassed(1, -2));
        refused("ifPassed(0, 0)", x, ARGUMENT, () -> x.ifPassed(0, 0));
        refused("ifPassed(501, -1)", x, ARGUMENT, () -> x.ifPassed(501, -1));
        about("promise 27");
        refused("quickest(3)", x, INDEX, () -> x.quickest(3));
        refused("quickest(-1)", x, INDEX, () -> x.quickest(-1));
        about("promise 28");
        refused("bestLoad(0, 0)", x, ARGUMENT, () -> x.bestLoad(0, 0));
        refused("bestLoad(101, 0)", x, ARGUMENT, () -> x.bestLoad(101, 0));
        refused("bestLoad(1, -1)", x, ARGUMENT, () -> x.bestLoad(1, -1));
        refused("bestLoad(1, 5)", x, ARGUMENT, () -> x.bestLoad(1, 5));
    }

    private static void testCarriersAndLog() {
        LeafCradles x = small();
        x.pass(7);
        x.bring(1, 1, 1);
        x.pass(4);
        about("promise 19");
        int[] facts = {10, 7, 1, 11};
        for (int what = 0; what <= 3; what++) {
            due("carrier(1, " + what + ")", x.carrier(1, what), facts[what]);
        }
        about("promise 18");
        due("not there yet", x.cradle(1, 5), 2);
        x.pass(7);
        due("there", x.cradle(1, 5), 0);
        about("promise 19");
        due("not busy", x.carrier(1, 1), 0);
        x.takeBack(1, 1);
        due("ways", x.carrier(1, 2), 2);
        due("minutes", x.carrier(1, 3), 12);
        about("promise 20");
        int[][] entries = {{7, 1, 1, 1, 11}, {18, 1, 1, -1, 1}};
        for (int entry = 0; entry < 2; entry++) {
            for (int what = 0; what <= 4; what++) {
                due("log(" + entry + ", " + what + ")", x.log(entry, what), entries[entry][what]);
            }
        }
        about("promise 21");
        due("whereAt(1, 6)", x.whereAt(1, 6), -1);
        due("whereAt(1, 7)", x.whereAt(1, 7), 1);
        due("whereAt(1, 17)", x.whereAt(1, 17), 1);
        due("whereAt(1, 18)", x.whereAt(1, 18), -1);
        due("whereAt(0, 18)", x.whereAt(0, 18), -1);
    }

    /** Of two entries in one minute the later one counts. */
    private static void testTwoWaysInAMinute() {
        about("promise 21");
        LeafCradles x = small();
        x.bring(0, 0, 0);
        x.takeBack(0, 1);
        due("whereAt(0, 0)", x.whereAt(0, 0), -1);
        about("promise 22");
        int[] counts = {3, 2, 2, 0, 2000, 2, 12, 0, 0, 0, 0, 0, 2, 6};
        for (int what = 0; what <= 13; what++) {
            due("count(" + what + ")", x.count(what), counts[what]);
        }
    }

    private static void testWhyNot() {
        about("promise 24");
        LeafCradles x = small();
        due("it can", x.whyNot(0, 0, 0), 0);
        due("size", x.whyNot(2, 0, 0), 4);
        x.addVolume(0, 1, 2, 2);
        due("gentleness", x.whyNot(3, 0, 0), 5);
        x.bring(0, 0, 0);
        due("it belongs to a cradle", x.whyNot(0, 0, 0), 1);
        due("the cradle is not free", x.whyNot(2, 0, 0), 3);
        due("the carrier is busy", x.whyNot(1, 1, 0), 7);
        x.pass(20);
        x.takeBack(0, 0);
        due("it is on its way back", x.whyNot(0, 1, 0), 2);
        x.pass(1);
        due("no leaf to scan", x.whyNot(0, 1, 0), 6);
        x.reject(0, 3);
        due("a faulty leaf", x.whyNot(0, 1, 0), 0);
    }

    private static void testFullLog() {
        LeafCradles x = new LeafCradles();
        x.addVolume(0, 1, 40, 0);
        x.addCradle(1, 0);
        x.addCarrier();
        x.set(0, 9);
        for (int i = 0; i < 29; i++) {
            x.bring(0, 0, 0);
            x.pass(1);
            x.takeBack(0, 0);
            x.pass(1);
        }
        x.bring(0, 0, 0);
        x.pass(1);
        about("promise 8");
        due("59 entries", x.count(5), 59);
        due("takeBack as the entry 59", x.takeBack(0, 0), 1);
        x.pass(1);
        about("promise 24");
        due("the log is full", x.whyNot(0, 0, 0), 8);
        about("promise 7");
        refused("bring with a full log", x, STATE, () -> x.bring(0, 0, 0));
        x.undo();
        x.undo();
        x.pass(1);
        x.addVolume(0, 1, 1, 0);
        x.addCradle(1, 0);
        x.bring(1, 1, 0);
        x.pass(1);
        about("promise 8");
        refused("takeBack with a full log", x, STATE, () -> x.takeBack(0, 0));
        about("promise 28");
        due("bestLoad needs no log", x.bestLoad(10, 0), 0);
        about("promise 27");
        due("quickest needs no log", x.quickest(1), 0);
    }

    private static void testIfPassedAndDoneIn() {
        LeafCradles x = small();
        x.bring(0, 0, 0);
        x.bring(1, 1, 1);
        about("promise 25");
        due("ifPassed on the way", x.ifPassed(4, -1), 0);
        due("ifPassed(5, 0)", x.ifPassed(5, 0), 1);
        due("ifPassed(13, 1)", x.ifPassed(13, 1), 1);
        due("ifPassed(13, -1)", x.ifPassed(13, -1), 5);
        due("ifPassed(500, -1)", x.ifPassed(500, -1), 10);
        about("promise 26");
        due("doneIn()", x.doneIn(), 23);
        x.pass(22);
        due("doneIn()", x.doneIn(), 1);
        due("works", x.cradle(1, 5), 0);
        x.pass(1);
        due("doneIn()", x.doneIn(), 0);
        due("minute", x.count(3), 23);
        x.takeBack(0, 0);
        due("doneIn() on the way back", x.doneIn(), 0);
    }

    /** Worst of all: the longest way, and each leaf as slow as can be. */
    private static void testLongestDoneIn() {
        about("promise 26");
        LeafCradles x = new LeafCradles();
        x.addVolume(19, 1, 40, 2);
        x.addCradle(1, 2);
        x.addCarrier();
        x.set(0, 9);
        x.set(1, 9);
        x.set(2, 200);
        x.set(3, 5);
        x.bring(0, 0, 0);
        due("doneIn()", x.doneIn(), 96 + 40 * 27);
        x.set(2, 40);
        due("doneIn() with the last scan that seals", x.doneIn(), 96 + 40 * 27);
        x.set(2, 39);
        due("doneIn() with a seal ahead of the last leaf", x.doneIn(), 96 + 39 * 27);
    }

    private static void testQuickest() {
        about("promise 27");
        LeafCradles x = new LeafCradles();
        x.addVolume(10, 1, 4, 0);
        x.addVolume(4, 1, 4, 0);
        due("quickest without carriers", x.quickest(0), -1);
        x.addCradle(1, 0);
        x.addCradle(1, 0);
        x.addCarrier();
        x.addCarrier();
        due("of equals the lowest", x.quickest(0), 0);
        x.bring(0, 0, 1);
        due("the other is busy", x.quickest(0), 0);
        x.bring(1, 1, 0);
        due("all are busy", x.quickest(0), -1);
        x.pass(20);
        due("the nearest to box 10", x.quickest(0), 1);
        due("the nearest to box 4", x.quickest(1), 0);
        x.set(3, 0);
        due("all boxes are near", x.quickest(0), 0);
    }

    private static void testBestLoad() {
        about("promise 28");
        LeafCradles x = new LeafCradles();
        due("bestLoad without cradles", x.bestLoad(10, 0), 0);
        x.addCradle(1, 2);
        x.addCradle(3, 0);
        x.addCradle(3, 2);
        due("bestLoad without volumes", x.bestLoad(10, 0), 0);
        x.addVolume(0, 3, 40, 0);
        x.addVolume(0, 1, 40, 0);
        x.addVolume(0, 1, 40, 0);
        x.addVolume(0, 1, 40, 3);
        due("bestLoad(1, 0)", x.bestLoad(1, 0), 0);
        due("bestLoad(1, 1)", x.bestLoad(1, 1), -1);
        due("bestLoad(11, 0)", x.bestLoad(11, 0), 30);
        int[] load = {1, 0, 2, -1};
        for (int what = 1; what <= 4; what++) {
            due("bestLoad(11, " + what + ")", x.bestLoad(11, what), load[what - 1]);
        }
        x.addCarrier();
        x.bring(1, 2, 0);
        int[] later = {2, 0, -1, -1};
        due("bestLoad(11, 0)", x.bestLoad(11, 0), 20);
        for (int what = 1; what <= 4; what++) {
            due("bestLoad(11, " + what + ") with a cradle that is not free", x.bestLoad(11, what), later[what - 1]);
        }
        x.pass(5);
        x.takeBack(1, 0);
        due("bestLoad(11, 0) with a volume on its way back", x.bestLoad(11, 0), 20);
        due("NONE comes first, as the others can have both", x.bestLoad(11, 1), -1);
        due("saved states", x.count(13), 6);
    }

    /** One volume for two cradles: NONE comes first, so the second one has it. */
    private static void testNoneComesFirst() {
        about("promise 28");
        LeafCradles x = new LeafCradles();
        x.addCradle(1, 2);
        x.addCradle(1, 2);
        x.addVolume(0, 1, 3, 0);
        due("bestLoad(10, 0)", x.bestLoad(10, 0), 3);
        due("bestLoad(10, 1)", x.bestLoad(10, 1), -1);
        due("bestLoad(10, 2)", x.bestLoad(10, 2), 0);
        due("bestLoad(100, 0)", x.bestLoad(100, 0), 3);
        x.addVolume(0, 1, 5, 0);
        due("bestLoad(10, 1)", x.bestLoad(10, 1), 0);
        due("bestLoad(10, 2)", x.bestLoad(10, 2), 1);
        due("bestLoad(4, 0)", x.bestLoad(4, 0), 6);
        due("bestLoad(3, 0)", x.bestLoad(3, 0), 4);
    }

    private static void testOpenShareAndDigest() {
        about("promise 29");
        LeafCradles x = laid(3, 0);
        due("openShare() of none", Double.doubleToLongBits(x.openShare()), 0L);
        due("openShare() without leaves", Double.doubleToLongBits(new LeafCradles().openShare()), 0L);
        x.pass(1);
        due("openShare() of one of three", Double.doubleToLongBits(x.openShare()), Double.doubleToLongBits(1.0 / 3));
        x.pass(2);
        due("openShare() of all", Double.doubleToLongBits(x.openShare()), Double.doubleToLongBits(1.0));
        about("promise 30");
        LeafCradles y = new LeafCradles();
        long hash = 2341;
        long[] values = {0, 0, 0, 0, 2000, 0, 0, 0, 0, 0, 0, 0, 0, 0, 1, 1, 30, 1, 0, 0, -1, -1, -1, -1, 0, 0};
        for (long value : values) {
            hash = 31 * hash + value;
        }
        due("digest() of a new object", y.digest(), hash);
        y.append('7');
        due("digest() with a character", y.digest(), 31 * (hash + 1) + '7');
    }

    /** The bits of every share that an archive of up to 40 leaves can have. */
    private static void testDigestOfShares() {
        about("promise 30");
        for (int leaves = 1; leaves <= 40; leaves++) {
            LeafCradles x = laid(leaves, 0);
            NaiveArchive y = new NaiveArchive();
            y.addVolume(0, 1, leaves, 0);
            y.addCradle(3, 2);
            y.addCarrier();
            y.bring(0, 0, 0);
            y.pass(1);
            for (int i = 0; i < leaves; i++) {
                x.pass(1);
                y.pass(1);
                due("digest()", x.digest(), y.digest());
            }
        }
    }

    public static void main(String[] args) {
        runAll(PromiseTest.class);
    }
}
