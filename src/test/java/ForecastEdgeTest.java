import java.math.BigInteger;

/** Reasons, what would be, and the digest: the edge of each sentence. */
public final class ForecastEdgeTest extends Checks {
    private static final int NONE = LeafCradles.NONE;

    private static void load(String what, LeafCradles x, int minutes, int... wants) {
        dueAll(what + ", bestLoad(" + minutes + ", what)", (y, number) -> y.bestLoad(minutes, number), x, wants);
    }

    static void testNothingIsChanged() {
        about("---- what would be; nothing is changed");
        LeafCradles x = mixed();
        x.whyNot(1, 1, 0);
        x.ifPassed(500, NONE);
        x.ifPassed(500, 0);
        x.doneIn();
        x.quickest(1);
        x.bestLoad(100, 0);
        x.openShare();
        x.digest();
        due("digest()", x.digest(), mixed().digest());
        due("and behind a minute", x.pass(1), mixed().pass(1));
    }

    static void testBeyondTheLastMinute() {
        about("and the limit of 20000 minutes does not matter.");
        LeafCradles x = atTheLastMinute();
        x.addVolume(3, 1, 7, 0);
        x.addVolume(0, 1, 9, 0);
        x.addCradle(1, 2);
        x.addCradle(1, 2);
        x.addCarrier();
        due("whyNot", x.whyNot(0, 0, 0), 0);
        due("bring at the minute 20000", x.bring(0, 0, 0), 4);
        refused("pass", x, STATE, () -> x.pass(1));
        due("ifPassed(4, 0)", x.ifPassed(4, 0), 0);
        due("ifPassed(5, 0)", x.ifPassed(5, 0), 1);
        due("ifPassed(500, NONE)", x.ifPassed(500, NONE), 7);
        due("doneIn()", x.doneIn(), 11);
        load("at the last minute", x, 100, 9, NONE, 1, NONE, NONE);
        due("whereAt", x.whereAt(0, 20000), 0);
        due("whereAt ahead of it", x.whereAt(0, 19999), NONE);
    }

    // whyNot

    /** Volumes: 0 small and sound, 1 large and sound, 2 small and brittle, 3 without a leaf to scan; all in their boxes. */
    private static LeafCradles reasons() {
        LeafCradles x = new LeafCradles();
        x.addVolume(0, 1, 2, 0);
        x.addVolume(0, 3, 2, 0);
        x.addVolume(0, 1, 2, 2);
        x.addVolume(0, 1, 2, 0);
        x.addCradle(1, 1);
        x.addCradle(3, 2);
        x.addCarrier();
        x.addCarrier();
        x.bring(3, 1, 1);
        x.pass(3);
        x.takeBack(3, 1);
        x.pass(1);
        return x;
    }

    static void testEachReason() {
        about("Returns 0 if it can; otherwise the first one of these that applies");
        LeafCradles x = reasons();
        due("it can", x.whyNot(0, 0, 0), 0);
        due("size less than the format", x.whyNot(1, 0, 0), 4);
        due("size as the format", x.whyNot(1, 1, 0), 0);
        due("state greater than gentleness", x.whyNot(2, 0, 0), 5);
        due("state as the gentleness", x.whyNot(2, 1, 0), 0);
        due("no leaf to scan", x.whyNot(3, 0, 0), 6);
        x.bring(0, 0, 0);
        due("on a cradle", x.whyNot(0, 1, 1), 1);
        due("cradle not free", x.whyNot(2, 0, 1), 3);
        due("carrier busy", x.whyNot(1, 1, 0), 7);
        x.pass(1);
        due("carrier not busy", x.whyNot(1, 1, 0), 0);
        x.takeBack(0, 0);
        due("on its way back", x.whyNot(0, 0, 1), 2);
        x.pass(1);
        due("in its box", x.whyNot(0, 0, 1), 0);
    }

    static void testReasonsInTheirOrder() {
        about("the first one of these that applies: of each two that stand together, and of all");
        LeafCradles x = reasons();
        x.bring(1, 1, 1);
        due("1 ahead of 3, 4 and 7", x.whyNot(1, 1, 1), 1);
        due("1 ahead of 4 alone", x.whyNot(1, 0, 0), 1);
        due("3 ahead of 6", x.whyNot(3, 1, 0), 3);
        due("3 ahead of 7", x.whyNot(0, 1, 1), 3);
        due("5 ahead of 7", x.whyNot(2, 0, 1), 5);
        due("6 ahead of 7", x.whyNot(3, 0, 1), 6);
        x.takeBack(1, 0);
        due("2 ahead of 4 and 7", x.whyNot(1, 0, 1), 2);
        x.pass(1);
        x.bring(0, 0, 0);
        due("3 ahead of 4", x.whyNot(1, 0, 1), 3);
        due("3 ahead of 5", x.whyNot(2, 0, 1), 3);
        due("4 ahead of 7", twoFaults().whyNot(0, 0, 1), 4);
        due("4 ahead of 5", twoFaults().whyNot(0, 0, 0), 4);
        due("5 ahead of 6", worn().whyNot(0, 0, 0), 5);
        due("5 ahead of 6 and 7", worn().whyNot(0, 0, 1), 5);
        due("2 ahead of 6", backWithoutLeaves().whyNot(0, 0, 0), 2);
        due("2 ahead of 3", backWithoutLeaves().whyNot(0, 1, 0), 2);
    }

    /** A volume that is large and brittle, a cradle that is neither, and a carrier 1 who is busy. */
    private static LeafCradles twoFaults() {
        LeafCradles x = new LeafCradles();
        x.addVolume(0, 2, 1, 2);
        x.addVolume(0, 1, 1, 0);
        x.addCradle(1, 1);
        x.addCradle(1, 1);
        x.addCarrier();
        x.addCarrier();
        x.bring(1, 1, 1);
        return x;
    }

    private static LeafCradles twoOfAll() {
        LeafCradles x = new LeafCradles();
        x.addVolume(0, 1, 1, 0);
        x.addVolume(0, 1, 1, 0);
        x.addCradle(1, 0);
        x.addCradle(1, 0);
        x.addCarrier();
        x.addCarrier();
        return x;
    }

    /** A volume that became worn by its last leaf, and is in its box again; carrier 1 is busy. */
    private static LeafCradles worn() {
        LeafCradles x = twoOfAll();
        x.set(2, 1);
        x.bring(0, 0, 0);
        x.pass(2);
        x.takeBack(0, 0);
        x.pass(1);
        x.bring(1, 1, 1);
        return x;
    }

    /** Volume 0 is on its way back without a leaf to scan, volume 1 has come to cradle 1. */
    private static LeafCradles backWithoutLeaves() {
        LeafCradles x = twoOfAll();
        x.bring(0, 0, 0);
        x.bring(1, 1, 1);
        x.pass(2);
        x.takeBack(0, 1);
        return x;
    }

    static void testTheLastReason() {
        about("8 the log has 60 entries");
        LeafCradles x = withEntries(60);
        x.addVolume(0, 3, 1, 0);
        x.addVolume(0, 1, 1, 1);
        due("8", x.whyNot(0, 0, 0), 8);
        due("4 ahead of 8", x.whyNot(1, 0, 0), 4);
        due("5 ahead of 8", x.whyNot(2, 0, 0), 5);
        LeafCradles y = withEntries(58);
        y.addVolume(0, 1, 1, 0);
        y.addCradle(1, 0);
        y.addCradle(1, 0);
        y.addCarrier();
        y.bring(0, 0, 0);
        y.takeBack(0, 1);
        due("2 ahead of 8", y.whyNot(0, 0, 0), 2);
        due("7 ahead of 8", y.whyNot(1, 1, 0), 7);
        y.pass(1);
        due("8 once none is busy", y.whyNot(1, 1, 0), 8);
    }

    // ifPassed and doneIn

    static void testMinutesOfIfPassed() {
        about("ifPassed: minutes: 1 to 500");
        range("ifPassed of all", () -> laid(40, 0), 1, 500, ARGUMENT, (x, v) -> x.ifPassed(v, NONE));
        range("ifPassed of one", () -> laid(40, 0), 1, 500, ARGUMENT, (x, v) -> x.ifPassed(v, 0));
        LeafCradles x = laid(40, 0);
        due("ifPassed(1, 0)", x.ifPassed(1, 0), 1);
        due("ifPassed(39, 0)", x.ifPassed(39, 0), 30 + 4);
        due("ifPassed(50, 0)", x.ifPassed(50, 0), 40);
        due("ifPassed(49, 0)", x.ifPassed(49, 0), 39);
        due("ifPassed(500, 0)", x.ifPassed(500, 0), 40);
    }

    static void testCradleOfIfPassed() {
        about("cradle: the number of a cradle; NONE: all cradles together");
        LeafCradles x = mixed();
        due("of the one at work", x.ifPassed(1, 0), 1);
        due("of a free one", x.ifPassed(500, 1), 0);
        due("together", x.ifPassed(500, NONE), 3);
        LeafCradles none = new LeafCradles();
        due("without cradles", none.ifPassed(1, NONE), 0);
        refused("ifPassed(1, 0) without cradles", none, INDEX, () -> none.ifPassed(1, 0));
        LeafCradles two = new LeafCradles();
        two.addVolume(0, 1, 5, 0);
        two.addVolume(2, 1, 8, 1);
        two.addCradle(1, 1);
        two.addCradle(1, 1);
        two.addCarrier();
        two.addCarrier();
        two.bring(0, 0, 0);
        two.bring(1, 1, 1);
        due("ifPassed(3, 1) on its way", two.ifPassed(3, 1), 0);
        due("ifPassed(4, 1) with half the work", two.ifPassed(4, 1), 0);
        due("ifPassed(5, 1)", two.ifPassed(5, 1), 1);
        due("ifPassed(5, 0)", two.ifPassed(5, 0), 4);
        due("ifPassed(5, NONE)", two.ifPassed(5, NONE), 5);
        due("pass(5)", two.pass(5), 5);
    }

    static void testDoneAtOnce() {
        about("Returns the least number of minutes, 0 to 2000");
        due("doneIn() without cradles", new LeafCradles().doneIn(), 0);
        LeafCradles x = laid(1, 0);
        due("doneIn() with one leaf", x.doneIn(), 1);
        x.pass(1);
        due("doneIn() without a leaf", x.doneIn(), 0);
        x.takeBack(0, 0);
        due("doneIn() with a free cradle", x.doneIn(), 0);
    }

    static void testDoneAndNotInALaterOne() {
        about("behind which no cradle would work in the next minute, nor in a later one");
        LeafCradles x = new LeafCradles();
        x.addVolume(0, 1, 3, 0);
        x.addVolume(19, 1, 2, 2);
        x.addCradle(1, 2);
        x.addCradle(1, 2);
        x.addCarrier();
        x.addCarrier();
        x.bring(0, 0, 0);
        due("doneIn() of the first one", x.doneIn(), 4);
        x.bring(1, 1, 1);
        due("doneIn() while none works yet", x.doneIn(), 20 + 6);
        x.pass(4);
        due("no cradle works now", x.cradle(0, 5) * 10 + x.cradle(1, 5), 42);
        due("doneIn() between the two", x.doneIn(), 22);
        x.pass(21);
        due("doneIn() with a minute left", x.doneIn(), 1);
        x.pass(1);
        due("doneIn()", x.doneIn(), 0);
    }

    static void testDoneBySealing() {
        about("behind which no cradle would work: as the state becomes too great");
        LeafCradles x = laid(40, 0);
        x.set(2, 2);
        due("doneIn()", x.doneIn(), 2 * 1 + 2 * 2 + 2 * 3);
        x.set(1, 0);
        due("doneIn() as fast when worn", x.doneIn(), 6);
        x.pass(6);
        due("doneIn() of a sealed one", x.doneIn(), 0);
        due("leaves that stay", x.volume(0, 10), 6);
    }

    static void testDoneWithWorkDone() {
        about("Tells when all that is on cradles would be done: with the work that is done");
        LeafCradles x = laid(2, 0);
        x.set(0, 9);
        x.pass(8);
        due("doneIn()", x.doneIn(), 10);
        x.set(0, 3);
        due("doneIn() with more than enough work", x.doneIn(), 4);
        due("the work is as it was", x.cradle(0, 3), 8);
    }

    static void testTheLongestDone() {
        about("0 to 2000 ..; NONE if there is none (the longest of all stays below)");
        LeafCradles x = new LeafCradles();
        x.addVolume(19, 1, 40, 2);
        x.addCradle(1, 2);
        x.addCarrier();
        x.set(0, 9);
        x.set(1, 9);
        x.set(2, 200);
        x.set(3, 5);
        x.bring(0, 0, 0);
        due("doneIn()", x.doneIn(), 96 + 40 * 27);
    }

    // quickest

    static void testQuickest() {
        about("of the carriers who are not busy the one whose way .. takes the fewest minutes, of several the lowest number; NONE if all are busy");
        LeafCradles x = new LeafCradles();
        x.addVolume(10, 1, 4, 0);
        x.addVolume(5, 1, 4, 0);
        due("without carriers", x.quickest(0), NONE);
        x.addCradle(1, 0);
        x.addCradle(1, 0);
        x.addCarrier();
        x.addCarrier();
        x.addCarrier();
        due("of several the lowest", x.quickest(0), 0);
        x.bring(0, 0, 1);
        x.pass(11);
        due("the nearest", x.quickest(0), 1);
        due("wherever the volume is: on a cradle", x.volume(0, 5), 0);
        due("of two as near the lowest", x.quickest(1), 0);
        x.set(3, 0);
        due("no minutes from box to box", x.quickest(0), 0);
        x.set(3, 5);
        x.takeBack(0, 1);
        due("the nearest is busy", x.quickest(0), 0);
        x.bring(1, 1, 0);
        due("two are busy", x.quickest(0), 2);
        due("wherever the volume is: on its way back", x.volume(0, 6), 1);
        x.takeBack(1, 2);
        due("all are busy", x.quickest(0), NONE);
        x.pass(1);
        due("one is busy no more", x.quickest(1), 1);
    }

    // bestLoad

    static void testArgumentsOfBestLoad() {
        about("minutes: 1 to 100; Throws IllegalArgumentException if minutes or what is out of range");
        range("bestLoad, minutes", Checks::mixed, 1, 100, ARGUMENT, (x, v) -> x.bestLoad(v, 0));
        range("bestLoad, what", Checks::mixed, 0, 4, ARGUMENT, (x, v) -> x.bestLoad(1, v));
        range("bestLoad, what, of none", LeafCradles::new, 0, 4, ARGUMENT, (x, v) -> x.bestLoad(100, v));
    }

    private static LeafCradles withCradles(int... sizesAndGentleness) {
        LeafCradles x = new LeafCradles();
        for (int i = 0; i + 1 < sizesAndGentleness.length; i += 2) {
            x.addCradle(sizesAndGentleness[i], sizesAndGentleness[i + 1]);
        }
        return x;
    }

    static void testTheWayOfALoad() {
        about("each way takes 1 minute, and no carrier is needed");
        LeafCradles x = withCradles(1, 0);
        x.addVolume(19, 1, 40, 0);
        load("the way alone", x, 1, 0, NONE, NONE, NONE, NONE);
        load("the way and a minute", x, 2, 1, 0, NONE, NONE, NONE);
        x.set(3, 5);
        load("whatever the way takes", x, 11, 10, 0, NONE, NONE, NONE);
        x.addVolume(0, 1, 1, 3);
        x.addCarrier();
        x.set(2, 200);
        load("in the most minutes", x, 100, 40, 0, NONE, NONE, NONE);
        x.set(0, 9);
        load("by slow cradles", x, 100, 11, 0, NONE, NONE, NONE);
        load("by slow cradles, one minute too few", x, 9, 0, NONE, NONE, NONE, NONE);
        load("by slow cradles, just enough", x, 10, 1, 0, NONE, NONE, NONE);
    }

    static void testLoadsThatMayBe() {
        about("its format must be at most the size, and its state at most the gentleness of its cradle");
        for (int format = 1; format <= 3; format++) {
            for (int state = 0; state <= 3; state++) {
                LeafCradles x = withCradles(2, 1);
                x.addVolume(0, format, 1, state);
                boolean may = format <= 2 && state <= 1;
                load("format " + format + ", state " + state, x, 10, may ? 1 : 0, may ? 0 : NONE, NONE, NONE, NONE);
            }
        }
    }

    static void testLoadsThatAreElsewhere() {
        about("each volume must not belong to a cradle or be on its way back");
        LeafCradles x = withCradles(1, 0, 1, 0);
        x.addVolume(3, 1, 4, 0);
        x.addCarrier();
        x.addCarrier();
        load("in its box", x, 10, 4, NONE, 0, NONE, NONE);
        x.bring(0, 0, 0);
        load("on a cradle", x, 10, 0, NONE, NONE, NONE, NONE);
        x.takeBack(0, 1);
        load("on its way back", x, 10, 0, NONE, NONE, NONE, NONE);
        x.pass(3);
        load("on its way back for a minute more", x, 10, 0, NONE, NONE, NONE, NONE);
        x.pass(1);
        load("in its box again", x, 10, 4, NONE, 0, NONE, NONE);
    }

    static void testCradlesOfALoad() {
        about("for 1 to 4 NONE also if there is no such cradle, or it is not free");
        LeafCradles x = withCradles(1, 0, 1, 0, 1, 0, 1, 0);
        for (int i = 0; i < 5; i++) {
            x.addVolume(0, 1, 9, 0);
        }
        load("all four", x, 4, 12, 0, 1, 2, 3);
        x.addCarrier();
        x.bring(1, 1, 0);
        load("one is not free", x, 4, 9, 0, NONE, 2, 3);
        x.pass(1);
        x.bring(2, 0, 0);
        load("two are not free", x, 4, 6, NONE, NONE, 0, 3);
    }

    static void testTheLowestLoad() {
        about("of all that bring so many the cradle 0 has, NONE, or the lowest volume that it can have (NONE comes first)");
        LeafCradles x = withCradles(1, 0, 1, 0);
        load("no volume", x, 100, 0, NONE, NONE, NONE, NONE);
        x.addVolume(0, 1, 3, 0);
        load("one volume", x, 100, 3, NONE, 0, NONE, NONE);
        x.addVolume(0, 1, 5, 0);
        load("two volumes", x, 100, 8, 0, 1, NONE, NONE);
        x.addVolume(0, 1, 5, 0);
        load("three volumes", x, 100, 10, 1, 2, NONE, NONE);
        load("as many of each", x, 3, 4, 0, 1, NONE, NONE);
        x.addVolume(0, 1, 4, 0);
        load("as many of the later ones", x, 5, 8, 1, 2, NONE, NONE);
    }

    static void testLoadsOfUnlikeCradles() {
        about("2, 3, 4: the same of the cradles 1, 2, 3, with those of lower numbers as told");
        LeafCradles x = withCradles(3, 2, 1, 0, 3, 0, 1, 2);
        x.addVolume(0, 1, 9, 0);
        x.addVolume(0, 3, 9, 2);
        x.addVolume(0, 1, 9, 2);
        x.addVolume(0, 2, 9, 0);
        load("each on the one where it can lie", x, 10, 9 + 9 + 3 + 3, 1, 0, 3, 2);
        load("too few minutes for the brittle ones", x, 3, 4, NONE, NONE, 3, 0);
        load("minutes for one leaf of them", x, 4, 3 + 3 + 1 + 1, 1, 0, 3, 2);
    }

    static void testAVolumeWithoutLeaves() {
        about("or none: a volume without a leaf to scan may be brought, but NONE comes first");
        LeafCradles x = laid(2, 0);
        x.pass(2);
        x.takeBack(0, 0);
        x.pass(1);
        due("in its box without a leaf", x.whyNot(0, 0, 0), 6);
        load("without a leaf", x, 10, 0, NONE, NONE, NONE, NONE);
        x.reject(0, 1);
        load("with a faulty leaf", x, 10, 1, 0, NONE, NONE, NONE);
    }

    static void testStrainOfALoad() {
        about("the greatest number of leaves that could be scanned: with the strain that there is");
        LeafCradles x = withCradles(1, 1, 1, 2);
        x.addVolume(0, 1, 9, 0);
        x.set(2, 2);
        load("cradle 1 works on when it is brittle", x, 30, 6, NONE, 0, NONE, NONE);
        load("as much on both", x, 7, 4, NONE, 0, NONE, NONE);
        x.addVolume(0, 1, 4, 0);
        load("the one with fewer leaves on the other one", x, 30, 10, 1, 0, NONE, NONE);
        due("the state is as it was", x.volume(0, 3), 0);
    }

    static void testABusyArchive() {
        about("and no carrier is needed: nor a place in the log");
        LeafCradles x = withEntries(60);
        load("with a full log", x, 100, 11, 0, NONE, NONE, NONE);
        LeafCradles y = withCradles(1, 0, 1, 0);
        y.addVolume(0, 1, 9, 0);
        y.addVolume(19, 1, 7, 0);
        y.addCarrier();
        y.bring(1, 0, 0);
        load("with all busy", y, 100, 9, NONE, 0, NONE, NONE);
    }

    static void testAllVolumesAndCradles() {
        about("if to each of them one volume was brought now, or none: with 12 volumes and 4 cradles");
        LeafCradles x = withCradles(1, 0, 1, 0, 1, 0, 1, 0);
        for (int i = 0; i < 12; i++) {
            x.addVolume(0, 1, 1 + i, 0);
        }
        load("the largest ones", x, 100, 9 + 10 + 11 + 12, 8, 9, 10, 11);
        load("the lowest of those that are large enough", x, 6, 20, 4, 5, 6, 7);
        load("any", x, 2, 4, 0, 1, 2, 3);
    }

    // openShare and digest

    private static void share(LeafCradles x, double want) {
        due("bits of openShare()", Double.doubleToLongBits(x.openShare()), Double.doubleToLongBits(want));
    }

    static void testOpenShare() {
        about("Returns count(9), as a double, divided by count(6); 0.0 if that is 0.");
        share(new LeafCradles(), 0.0);
        LeafCradles x = laid(3, 0);
        share(x, 0.0);
        x.pass(1);
        share(x, 1.0 / 3.0);
        x.pass(2);
        share(x, 1.0);
        x.addVolume(0, 1, 40, 0);
        share(x, 3.0 / 43.0);
        x.reject(0, 0);
        share(x, 2.0 / 43.0);
        LeafCradles one = laid(1, 0);
        share(one, 0.0);
        one.pass(1);
        share(one, 1.0);
    }

    private static BigInteger hash;

    private static void mix(long value) {
        hash = hash.multiply(BigInteger.valueOf(31)).add(BigInteger.valueOf(value));
    }

    /** The list of the document, in numbers without an end. */
    private static void mixAll(LeafCradles x, String text) {
        hash = BigInteger.valueOf(2341);
        for (int i = 0; i <= 13; i++) {
            mix(x.count(i));
        }
        for (int i = 0; i <= 3; i++) {
            mix(x.setting(i));
        }
        for (int v = 0; v < x.count(0); v++) {
            for (int i = 0; i <= 11; i++) {
                mix(x.volume(v, i));
            }
            for (int leaf = 0; leaf < x.volume(v, 2); leaf++) {
                for (int i = 0; i <= 3; i++) {
                    mix(x.leaf(v, leaf, i));
                }
            }
            mix(x.whereAt(v, x.count(3)));
            mix(x.quickest(v));
        }
        for (int c = 0; c < x.count(1); c++) {
            for (int i = 0; i <= 5; i++) {
                mix(x.cradle(c, i));
            }
            mix(x.ifPassed(30, c));
        }
        for (int c = 0; c < x.count(2); c++) {
            for (int i = 0; i <= 3; i++) {
                mix(x.carrier(c, i));
            }
        }
        for (int entry = 0; entry < x.count(5); entry++) {
            for (int i = 0; i <= 4; i++) {
                mix(x.log(entry, i));
            }
        }
        mix(x.doneIn());
        for (int i = 0; i <= 4; i++) {
            mix(x.bestLoad(20, i));
        }
        mix(Double.doubleToLongBits(x.openShare()));
        mix(text.length());
        for (int i = 0; i < text.length(); i++) {
            mix(text.charAt(i));
        }
    }

    static void testDigest() {
        about("the hash becomes 31 * hash + v, in long arithmetic with overflow");
        LeafCradles x = mixed();
        mixAll(x, "9:1800");
        due("the hash goes round", hash.bitLength() > 64 ? 1 : 0, 1);
        due("digest()", x.digest(), hash.longValue());
        due("digest() once more", x.digest(), hash.longValue());
        LeafCradles none = new LeafCradles();
        mixAll(none, "");
        due("digest() of none", none.digest(), hash.longValue());
    }

    static void testMinutesInTheDigest() {
        about("ifPassed with 30 minutes and this cradle; .. bestLoad with 20 minutes for 0 to 4");
        LeafCradles x = withCradles(1, 0, 1, 0);
        x.addVolume(0, 1, 40, 0);
        x.addVolume(0, 1, 40, 0);
        x.addCarrier();
        x.set(2, 200);
        x.bring(0, 0, 0);
        due("ifPassed(30, 0)", x.ifPassed(30, 0), 29);
        load("with 20 minutes", x, 20, 19, NONE, 1, NONE, NONE);
        mixAll(x, "");
        due("digest()", x.digest(), hash.longValue());
    }

    static void testDigestTellsAll() {
        about("Computes a hash of the whole state.");
        LeafCradles x = mixed();
        long first = x.digest();
        x.append('!');
        long second = x.digest();
        due("another buffer", first == second ? 1 : 0, 0);
        x.setYear(2001);
        due("another year", x.digest() == second ? 1 : 0, 0);
        x.undo();
        due("saved states are counted, and it is as it was", x.digest(), second);
    }

    public static void main(String[] args) {
        runAll(ForecastEdgeTest.class);
    }
}
