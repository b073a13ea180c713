/** Ways, minutes, the log and leaves that are found faulty: the edge of each sentence. */
public final class MinuteEdgeTest extends Checks {
    /** Volume 0 in box 0 and volume 1 in box 19, of 40 leaves each; slow cradles for both; two carriers. */
    private static LeafCradles farApart() {
        LeafCradles x = new LeafCradles();
        x.addVolume(0, 1, 40, 0);
        x.addVolume(19, 1, 40, 0);
        x.addCradle(1, 0);
        x.addCradle(1, 0);
        x.addCarrier();
        x.addCarrier();
        x.set(0, 9);
        return x;
    }

    static void testMinutesOfAWay() {
        about("A way with a volume takes setting 3 * (the distance ..) + 1 minutes");
        LeafCradles x = farApart();
        for (int setting = 0; setting <= 5; setting++) {
            int way = setting * 19 + 1;
            x.set(3, setting);
            due("bring over 19 boxes", x.bring(1, 0, 0), way);
            due("the carrier is busy", x.carrier(0, 1), way);
            due("and stands there from now on", x.carrier(0, 0), 19);
            due("the way of the volume", x.volume(1, 6), way);
            x.pass(way);
            due("takeBack over no box", x.takeBack(1, 0), 1);
            x.pass(1);
            due("bring over 19 boxes down", x.bring(0, 1, 0), way);
            due("and stands there from now on", x.carrier(0, 0), 0);
            x.pass(way);
            due("takeBack by one who stands there", x.takeBack(0, 1), 1);
            x.pass(1);
        }
        due("minutes of all ways of carrier 0", x.carrier(0, 3), 2 * (1 + 20 + 39 + 58 + 77 + 96) + 6);
        due("ways of carrier 1", x.carrier(1, 2), 6);
    }

    static void testTakeBackMovesTheCarrier() {
        about("the carrier is busy for so many minutes then, and stands at the box of the volume from now on");
        LeafCradles x = farApart();
        x.bring(1, 0, 0);
        due("takeBack over 19 boxes", x.takeBack(1, 1), 20);
        due("where the carrier stands", x.carrier(1, 0), 19);
        due("how long", x.carrier(1, 1), 20);
    }

    static void testBelongsAtOnceAndLiesThereLater() {
        about("it belongs to this cradle at once; it lies there when these minutes have passed");
        LeafCradles x = farApart();
        x.set(0, 1);
        due("bring", x.bring(1, 1, 0), 20);
        due("its cradle", x.volume(1, 5), 1);
        due("the cradle's volume", x.cradle(1, 2), 1);
        due("free cradles", x.count(12), 1);
        due("the minutes ahead of that", x.pass(19), 0);
        due("left of its way", x.volume(1, 6), 1);
        due("not there yet", x.cradle(1, 5), 2);
        due("the last minute of the way", x.pass(1), 0);
        due("left of its way", x.volume(1, 6), 0);
        due("there", x.cradle(1, 5), 0);
        due("the first minute of work", x.pass(1), 1);
        LeafCradles y = farApart();
        y.set(0, 1);
        y.bring(1, 1, 0);
        due("the way and one minute at once", y.pass(21), 1);
        due("left of its way", y.volume(1, 6), 0);
    }

    static void testLeavesItsCradleAtOnce() {
        about("it leaves its cradle at once, which is free then (also if it did not lie there yet)");
        LeafCradles x = farApart();
        x.bring(1, 0, 0);
        x.pass(3);
        x.takeBack(1, 1);
        due("its cradle", x.volume(1, 5), -1);
        due("the cradle's volume", x.cradle(0, 2), -1);
        due("free cradles", x.count(12), 2);
        x.pass(17);
        due("another one may be brought", x.whyNot(0, 0, 0), 0);
        LeafCradles y = laid(2, 0);
        y.takeBack(0, 0);
        due("the cradle's volume, if it lay there", y.cradle(0, 2), -1);
    }

    static void testOnItsWayBackUntilThen() {
        about("it is in its box when these minutes have passed. Until then it is on its way back.");
        LeafCradles x = farApart();
        x.bring(1, 0, 0);
        due("takeBack", x.takeBack(1, 1), 20);
        x.pass(19);
        due("left of its way", x.volume(1, 6), 1);
        due("on its way back", x.whyNot(1, 0, 0), 2);
        refused("takeBack on its way back", x, STATE, () -> x.takeBack(1, 0));
        x.pass(1);
        due("left of its way", x.volume(1, 6), 0);
        due("in its box", x.whyNot(1, 0, 0), 0);
        refused("takeBack from its box", x, STATE, () -> x.takeBack(1, 0));
        due("bring", x.bring(1, 0, 1), 1);
    }

    static void testWhatWasLeftDoesNotMatter() {
        about("(What was left of its way to the cradle does not matter.)");
        LeafCradles x = farApart();
        x.bring(1, 0, 0);
        x.pass(1);
        x.set(3, 0);
        due("a shorter way back", x.takeBack(1, 1), 1);
        due("left of its way", x.volume(1, 6), 1);
        due("the first carrier", x.carrier(0, 1), 19);
        LeafCradles y = farApart();
        y.bring(1, 0, 0);
        y.pass(19);
        due("a longer way back", y.takeBack(1, 1), 20);
        due("left of its way", y.volume(1, 6), 20);
    }

    static void testStateAndGentleness() {
        about("works, if the state of the volume is at most the gentleness of the cradle");
        for (int state = 0; state <= 2; state++) {
            for (int gentleness = 0; gentleness <= 2; gentleness++) {
                LeafCradles x = new LeafCradles();
                x.addVolume(0, 1, 1, state);
                x.addCradle(1, gentleness);
                x.addCarrier();
                due("whyNot, " + state + " on " + gentleness, x.whyNot(0, 0, 0), state <= gentleness ? 0 : 5);
                if (state <= gentleness) {
                    x.bring(0, 0, 0);
                    due("pass", x.pass(4), 1);
                }
            }
        }
    }

    static void testStateRisesAboveGentleness() {
        about("works, if the state of the volume is at most the gentleness of the cradle: no more once it is greater");
        LeafCradles x = new LeafCradles();
        x.addVolume(0, 1, 5, 0);
        x.addCradle(1, 1);
        x.addCarrier();
        x.set(2, 2);
        x.bring(0, 0, 0);
        due("two leaves of a sound one, two of a worn one", x.pass(1 + 2 + 4), 4);
        due("state", x.volume(0, 3), 2);
        due("no more", x.pass(500), 0);
        due("why", x.cradle(0, 5), 3);
        due("work stays", x.cradle(0, 3), 0);
        due("a leaf is left", x.volume(0, 10), 4);
    }

    static void testOrderOfLeaves() {
        about("a faulty leaf comes ahead of one that is not scanned, of these the one with the lowest number");
        LeafCradles x = laid(6, 0);
        x.pass(4);
        x.reject(0, 3);
        x.reject(0, 1);
        int[] order = {1, 3, 4, 5, -1};
        for (int i = 0; i < order.length; i++) {
            due("leaf that comes as number " + i, x.volume(0, 10), order[i]);
            due("pass(1)", x.pass(1), order[i] < 0 ? 0 : 1);
        }
        dueAll("leaf(0, leaf, 1)", (y, leaf) -> y.leaf(0, leaf, 1), x, 1, 2, 1, 2, 1, 1);
    }

    static void testTheLeafThatComesFirstNow() {
        about("the leaf that comes first now is scanned");
        LeafCradles x = laid(3, 0);
        x.pass(1);
        x.set(0, 3);
        x.pass(2);
        x.reject(0, 0);
        due("the last minute of work", x.pass(1), 1);
        dueAll("leaf(0, leaf, 0)", (y, leaf) -> y.leaf(0, leaf, 0), x, 1, 0, 0);
        due("the leaf 0 for the second time", x.leaf(0, 0, 1), 2);
    }

    static void testWorkIsEnough() {
        about("If it is then at least setting 0 + setting 1 * state .., the work becomes 0");
        workIsEnough(1, 0, 2, 1);
        workIsEnough(3, 2, 1, 5);
        workIsEnough(9, 9, 0, 9);
        workIsEnough(9, 9, 2, 27);
    }

    private static void workIsEnough(int forLeaf, int byState, int state, int enough) {
        LeafCradles x = laid(3, state);
        x.set(0, forLeaf);
        x.set(1, byState);
        for (int work = 1; work < enough; work++) {
            due("pass(1)", x.pass(1), 0);
            due("work", x.cradle(0, 3), work);
        }
        due("the minute with enough work", x.pass(1), 1);
        due("work", x.cradle(0, 3), 0);
        due("two leaves more, at once", x.pass(2 * enough), 2);
    }

    static void testWorkBehindTheLastScan() {
        about("The work of the cradle becomes 1 more. .. the work becomes 0: by many minutes at once");
        LeafCradles x = laid(9, 0);
        x.set(0, 3);
        due("two leaves and two minutes more", x.pass(8), 2);
        due("work", x.cradle(0, 3), 2);
        due("one leaf", x.pass(1), 1);
        due("two leaves and a minute more", x.pass(7), 2);
        due("work", x.cradle(0, 3), 1);
        x.set(0, 9);
        due("the minutes that were passed count", x.ifPassed(8, 0), 1);
        due("one minute too few", x.pass(7), 0);
        due("work", x.cradle(0, 3), 8);
    }

    static void testSettingsOfThisMinute() {
        about("(as they are in this minute)");
        settingOfThisMinute(6, 1);
        settingOfThisMinute(1, 1);
        settingOfThisMinute(7, 2);
        settingOfThisMinute(9, 4);
    }

    /** With 5 minutes of work done. */
    private static void settingOfThisMinute(int forLeaf, int more) {
        LeafCradles x = laid(3, 0);
        x.set(0, 9);
        x.pass(5);
        x.set(0, forLeaf);
        due("the work stays", x.cradle(0, 3), 5);
        due("ifPassed ahead of enough work", more == 1 ? 0 : x.ifPassed(more - 1, 0), 0);
        due("ifPassed with enough work", x.ifPassed(more, 0), 1);
        for (int minute = 1; minute < more; minute++) {
            due("pass(1)", x.pass(1), 0);
        }
        due("pass(1) with enough work", x.pass(1), 1);
        due("what was too much is gone", x.cradle(0, 3), 0);
    }

    static void testStateOfThisMinute() {
        about("(as they are in this minute): a state that becomes worse takes longer from the next leaf on");
        LeafCradles x = laid(9, 0);
        x.set(2, 1);
        int[] scanned = {1, 0, 1, 0, 0, 1, 0, 0};
        for (int minute = 0; minute < scanned.length; minute++) {
            due("minute " + minute, x.pass(1), scanned[minute]);
        }
        due("sealed", x.volume(0, 3), 3);
        due("no more", x.pass(500), 0);
        due("a state is at most 3", x.volume(0, 3), 3);
        LeafCradles y = laid(9, 0);
        y.set(2, 1);
        due("at once", y.pass(6), 3);
    }

    static void testStrain() {
        about("the strain of the volume becomes 1 more; if that is setting 2 or more, the strain becomes 0, and the state 1 more");
        LeafCradles x = laid(40, 0);
        x.pass(29);
        due("strain one below the limit", x.volume(0, 4), 29);
        due("state", x.volume(0, 3), 0);
        x.pass(1);
        due("strain at the limit", x.volume(0, 4), 0);
        due("state", x.volume(0, 3), 1);
    }

    static void testStrainByAnotherLimit() {
        about("if that is setting 2 or more: a limit that was set to less than the strain, or just above");
        int[][] cases = {{1, 0, 1}, {5, 0, 1}, {6, 0, 1}, {7, 6, 0}};
        for (int[] one : cases) {
            LeafCradles x = laid(40, 0);
            x.pass(5);
            x.set(2, one[0]);
            due("strain, not before a scan", x.volume(0, 4), 5);
            x.pass(1);
            due("strain with the limit " + one[0], x.volume(0, 4), one[1]);
            due("state with the limit " + one[0], x.volume(0, 3), one[2]);
        }
    }

    static void testTheGreatestLimitOfStrain() {
        about("the limit for strain, 1 to 200: by leaves that are scanned anew");
        LeafCradles x = laid(40, 0);
        x.set(2, 200);
        x.pass(40);
        for (int round = 0; round < 4; round++) {
            for (int leaf = 0; leaf < 40; leaf++) {
                x.reject(0, leaf);
            }
            due("39 scans", x.pass(39), 39);
            due("strain", x.volume(0, 4), 79 + 40 * round);
            due("state", x.volume(0, 3), 0);
            x.pass(1);
        }
        due("strain behind 200 scans", x.volume(0, 4), 0);
        due("state", x.volume(0, 3), 1);
        due("its leaves were scanned", x.volume(0, 11), 200);
        due("leaves were found faulty", x.count(11), 160);
    }

    static void testWorkStays() {
        about("(If a cradle does not work, its work stays.)");
        LeafCradles x = laid(2, 0);
        x.set(0, 3);
        x.pass(6);
        due("no leaf is left", x.cradle(0, 5), 4);
        x.pass(50);
        due("work without a leaf", x.cradle(0, 3), 0);
        x.reject(0, 0);
        due("two minutes are too few", x.pass(2), 0);
        due("work", x.cradle(0, 3), 2);
        due("three are enough", x.pass(1), 1);
    }

    static void testWorkBecomesNothing() {
        about("The work of a cradle becomes 0 when a volume is brought to it, or leaves it.");
        LeafCradles x = laid(4, 0);
        x.set(0, 9);
        x.pass(8);
        due("work", x.cradle(0, 3), 8);
        x.takeBack(0, 0);
        due("work when it leaves", x.cradle(0, 3), 0);
        x.pass(1);
        x.bring(0, 0, 0);
        due("work when it is brought", x.cradle(0, 3), 0);
        due("not by what was done", x.pass(9), 0);
        due("work", x.cradle(0, 3), 8);
        due("but by nine minutes", x.pass(1), 1);
    }

    static void testBusyMinutes() {
        about("All carriers who are busy are busy for 1 minute less; of each volume that is on its way 1 minute less is left.");
        LeafCradles x = farApart();
        x.bring(1, 0, 0);
        x.pass(18);
        x.bring(0, 1, 1);
        due("busy", x.carrier(0, 1), 2);
        due("left", x.volume(1, 6), 2);
        due("busy, the other", x.carrier(1, 1), 1);
        x.pass(1);
        due("busy", x.carrier(0, 1), 1);
        due("busy, the other", x.carrier(1, 1), 0);
        due("left, the other", x.volume(0, 6), 0);
        refused("bring by one who is busy for 1 minute", x, STATE, () -> x.takeBack(1, 0));
        x.pass(1);
        due("busy no more", x.carrier(0, 1), 0);
        x.pass(500);
        due("never below 0", x.carrier(0, 1), 0);
        due("never below 0, of a volume", x.volume(1, 6), 0);
        due("takeBack by one who is busy no more", x.takeBack(1, 0), 1);
    }

    static void testNumberOfTheMinute() {
        about("There is a number of the minute, at first 0. .. The number of the minute becomes 1 more.");
        LeafCradles x = new LeafCradles();
        due("at first", x.count(3), 0);
        x.pass(1);
        due("behind one", x.count(3), 1);
        x.pass(500);
        due("behind 500", x.count(3), 501);
    }

    static void testMinutesOfPass() {
        about("minutes: 1 to 500");
        range("pass", () -> laid(40, 0), 1, 500, ARGUMENT, LeafCradles::pass);
        due("pass(500) of all leaves", laid(40, 0).pass(500), 40);
        due("pass(1)", laid(40, 0).pass(1), 1);
    }

    static void testTheLastMinute() {
        about("Throws IllegalStateException if the number of the minute would be above 20000");
        LeafCradles x = new LeafCradles();
        for (int i = 0; i < 39; i++) {
            x.pass(500);
        }
        x.pass(1);
        refused("pass(500) from 19501", x, STATE, () -> x.pass(500));
        x.pass(498);
        refused("pass(2) from 19999", x, STATE, () -> x.pass(2));
        due("pass(1) from 19999", x.pass(1), 0);
        due("count(3)", x.count(3), 20000);
        refused("pass(1) from 20000", x, STATE, () -> x.pass(1));
        refused("pass(500) from 20000", x, STATE, () -> x.pass(500));
        x.undo();
        x.undo();
        due("pass(499) from 19501", x.pass(499), 0);
        LeafCradles y = new LeafCradles();
        for (int i = 0; i < 39; i++) {
            y.pass(500);
        }
        due("pass(500) from 19500", y.pass(500), 0);
        due("count(3)", y.count(3), 20000);
    }

    static void testScansOfAllCradles() {
        about("Returns how many leaves are scanned in them.");
        LeafCradles x = new LeafCradles();
        for (int i = 0; i < 4; i++) {
            x.addVolume(0, 1, 10 + i, 0);
            x.addCradle(1, 0);
        }
        x.addCarrier();
        for (int i = 0; i < 4; i++) {
            x.bring(i, i, 0);
            x.pass(1);
        }
        dueAll("scanned so far", (y, cradle) -> y.cradle(cradle, 4), x, 3, 2, 1, 0);
        due("pass(7)", x.pass(7), 28);
        due("pass(500)", x.pass(500), 46 - 34);
        dueAll("scanned on each", (y, cradle) -> y.cradle(cradle, 4), x, 10, 11, 12, 13);
    }

    static void testEntries() {
        about("Each way with a volume is an entry of the log, numbered from 0");
        LeafCradles x = farApart();
        x.pass(3);
        due("entries at first", x.count(5), 0);
        x.bring(1, 1, 0);
        x.takeBack(1, 1);
        x.pass(20);
        x.bring(0, 1, 0);
        dueAll("log(0, what)", (y, what) -> y.log(0, what), x, 3, 0, 1, 1, 20);
        dueAll("log(1, what)", (y, what) -> y.log(1, what), x, 3, 1, 1, -1, 20);
        dueAll("log(2, what)", (y, what) -> y.log(2, what), x, 23, 0, 0, 1, 20);
        due("entries", x.count(5), 3);
    }

    static void testMostEntries() {
        about("The log has at most 60 entries.");
        LeafCradles x = withEntries(59);
        due("whyNot with 59 entries: on a cradle", x.whyNot(0, 0, 0), 1);
        due("takeBack as the entry 59", x.takeBack(0, 0), 1);
        x.pass(1);
        due("entries", x.count(5), 60);
        due("whyNot with 60 entries", x.whyNot(0, 0, 0), 8);
        refused("bring with 60 entries", x, STATE, () -> x.bring(0, 0, 0));
        LeafCradles y = withEntries(58);
        y.addVolume(0, 1, 1, 0);
        y.addCradle(1, 0);
        y.bring(0, 0, 0);
        y.pass(1);
        due("whyNot with 59 entries", y.whyNot(1, 1, 0), 0);
        due("bring as the entry 59", y.bring(1, 1, 0), 1);
        y.pass(1);
        refused("takeBack with 60 entries", y, STATE, () -> y.takeBack(0, 0));
        dueAll("log(59, what)", (z, what) -> z.log(59, what), y, 59, 0, 1, 1, 1);
        y.undo();
        y.undo();
        due("takeBack as the entry 59, behind undo", y.takeBack(0, 0), 1);
        due("whereAt", y.whereAt(1, y.count(3)), -1);
    }

    static void testReasonsAgainstTakeBack() {
        about("Throws IllegalStateException if the volume belongs to no cradle, the carrier is busy, or the log has 60 entries");
        LeafCradles x = farApart();
        refused("takeBack from its box", x, STATE, () -> x.takeBack(0, 0));
        x.bring(0, 0, 0);
        refused("takeBack by one who is busy", x, STATE, () -> x.takeBack(0, 0));
        due("takeBack by another one", x.takeBack(0, 1), 1);
        range("takeBack, volume", MinuteEdgeTest::bothOnCradles, 0, 1, INDEX, (y, v) -> y.takeBack(v, 1));
        range("takeBack, carrier", MinuteEdgeTest::bothOnCradles, 0, 1, INDEX, (y, v) -> y.takeBack(0, v));
    }

    private static LeafCradles bothOnCradles() {
        LeafCradles x = farApart();
        x.bring(0, 0, 0);
        x.bring(1, 1, 1);
        x.pass(20);
        return x;
    }

    static void testBringNumbers() {
        about("bring: Throws IndexOutOfBoundsException if there is no such volume, cradle or carrier");
        range("bring, volume", MinuteEdgeTest::farApart, 0, 1, INDEX, (x, v) -> x.bring(v, 0, 0));
        range("bring, cradle", MinuteEdgeTest::farApart, 0, 1, INDEX, (x, v) -> x.bring(0, v, 0));
        range("bring, carrier", MinuteEdgeTest::farApart, 0, 1, INDEX, (x, v) -> x.bring(0, 0, v));
    }

    static void testReject() {
        about("reject: Throws IndexOutOfBoundsException if there is no such volume or leaf; IllegalStateException if the leaf is not good");
        Maker done = () -> {
            LeafCradles x = laid(40, 0);
            x.pass(500);
            return x;
        };
        range("reject, volume", done, 0, 0, INDEX, (x, v) -> x.reject(v, 0));
        range("reject, leaf", done, 0, 39, INDEX, (x, v) -> x.reject(0, v));
        LeafCradles x = laid(3, 0);
        x.pass(2);
        refused("reject of a leaf that is not scanned", x, STATE, () -> x.reject(0, 2));
        due("reject of the first one", x.reject(0, 0), 1);
        refused("reject of a faulty leaf", x, STATE, () -> x.reject(0, 0));
        due("reject of another one", x.reject(0, 1), 2);
        x.pass(1);
        due("reject of one that was scanned anew", x.reject(0, 0), 2);
        due("how often found faulty", x.count(11), 3);
        LeafCradles all = done.make();
        for (int leaf = 0; leaf < 40; leaf++) {
            due("reject of all", all.reject(0, leaf), leaf + 1);
        }
        due("good leaves", all.volume(0, 7), 0);
        due("faulty leaves", all.count(8), 40);
    }

    static void testWhereAt() {
        about("whereAt: minute: 0 up to the number of the minute");
        range("whereAt, minute", () -> laid(1, 0), 0, 1, ARGUMENT, (x, v) -> x.whereAt(0, v));
        range("whereAt, minute of none", MinuteEdgeTest::farApart, 0, 0, ARGUMENT, (x, v) -> x.whereAt(0, v));
        about("that began in this minute or ahead of it (also while it was on its way there)");
        LeafCradles x = farApart();
        x.pass(5);
        x.bring(1, 1, 0);
        x.pass(25);
        x.takeBack(1, 0);
        x.pass(1);
        x.bring(1, 0, 0);
        x.takeBack(1, 1);
        x.pass(1);
        x.bring(0, 0, 0);
        int[][] places = {{0, -1}, {4, -1}, {5, 1}, {29, 1}, {30, -1}, {31, -1}};
        for (int[] place : places) {
            due("whereAt(1, " + place[0] + ")", x.whereAt(1, place[0]), place[1]);
        }
        due("whereAt of the other volume, ahead of its way", x.whereAt(0, 31), -1);
        due("whereAt of the other volume", x.whereAt(0, 32), 0);
    }

    public static void main(String[] args) {
        runAll(MinuteEdgeTest.class);
    }
}
