import java.util.ArrayDeque;
import java.util.Deque;

/** Saved states, and calls that throw: the edge of each sentence. */
public final class UndoEdgeTest extends Checks {
    /** From here on both answer the same, in all their saved states too. */
    private static void same(String what, LeafCradles x, LeafCradles y) {
        due("digest() behind " + what, x.digest(), y.digest());
        while (y.count(13) > 0) {
            due("undo() behind " + what, thrownBy(x::undo) == null ? x.count(13) : -1, y.count(13) - 1);
            y.undo();
            due("digest() of a saved state behind " + what, x.digest(), y.digest());
        }
        refused("undo() of no more behind " + what, x, STATE, x::undo);
    }

    /** The call saves one state more, and undo brings back what was there, in all saved states too. */
    private static void undoable(String what, Maker maker, CallOn call) {
        LeafCradles x = maker.make();
        LeafCradles y = maker.make();
        int saves = x.count(13);
        call.answer(x);
        due("saved states behind " + what, x.count(13), Math.min(6, saves + 1));
        x.undo();
        y.setYear(1900);
        y.undo();
        same(what, x, y);
    }

    private static void notSaved(String what, CallOn call) {
        LeafCradles x = mixed();
        call.answer(x);
        due("saved states behind " + what, x.count(13), 5);
        LeafCradles y = mixed();
        x.clearBuffer();
        y.clearBuffer();
        same(what, x, y);
    }

    static void testEachUndoableCall() {
        about("Each method that is marked \"undoable\" .. saves the state from before it");
        for (Maker maker : new Maker[] {Checks::mixed, UndoEdgeTest::mixedWithOneSave, UndoEdgeTest::mixedWithAllSaves}) {
            undoable("addVolume", maker, x -> x.addVolume(1, 2, 3, 1));
            undoable("addCradle", maker, x -> x.addCradle(3, 2));
            undoable("addCarrier", maker, LeafCradles::addCarrier);
            undoable("set", maker, x -> x.set(2, 7));
            undoable("setYear", maker, x -> x.setYear(2199));
            undoable("takeBack", maker, x -> x.takeBack(0, 0));
            undoable("pass", maker, x -> x.pass(500));
            undoable("reject", maker, x -> x.reject(0, 2));
        }
        Maker free = () -> {
            LeafCradles x = mixed();
            x.addVolume(9, 1, 4, 0);
            return x;
        };
        undoable("bring", free, x -> x.bring(3, 1, 0));
    }

    private static LeafCradles mixedWithOneSave() {
        LeafCradles x = mixed();
        x.undo();
        x.undo();
        x.undo();
        x.undo();
        return x;
    }

    private static LeafCradles mixedWithAllSaves() {
        LeafCradles x = mixed();
        x.set(1, 2);
        return x;
    }

    static void testUndoOfBar() {
        about("saves the state from before it .. all but the buffer");
        LeafCradles x = mixed();
        LeafCradles y = mixed();
        y.clearBuffer();
        x.clearBuffer();
        append(x, "0-4:1900");
        due("bar(0)", x.bar(0), 5);
        due("saved states", x.count(13), 6);
        due("undo()", x.undo(), 5);
        due("the buffer is not brought back", x.clearBuffer(), 0);
        same("bar", x, y);
        LeafCradles z = mixed();
        z.setYear(1900);
        z.append('7');
        z.undo();
        due("what was appended stays", z.clearBuffer(), 7);
    }

    static void testCallsThatChangeNothing() {
        about("(also if it changes nothing)");
        undoable("set to the same", Checks::mixed, x -> x.set(1, 1));
        undoable("setYear to the same", Checks::mixed, x -> x.setYear(2000));
        LeafCradles x = new LeafCradles();
        x.setYear(2000);
        due("saved states", x.count(13), 1);
        x.set(0, 1);
        due("saved states", x.count(13), 2);
        x.addVolume(0, 1, 3, 0);
        append(x, "0:1900");
        x.bar(0);
        append(x, "0:1900");
        x.bar(0);
        due("saved states", x.count(13), 5);
        due("undo() of the bar that was there", x.undo(), 4);
        due("bar", x.leaf(0, 0, 2), 1900);
        x.undo();
        due("bar", x.leaf(0, 0, 2), 0);
    }

    static void testCallsThatSaveNothing() {
        about("Each method that is marked \"undoable\" (and no other one) .. saves the state");
        notSaved("append", x -> x.append('1'));
        notSaved("clearBuffer", LeafCradles::clearBuffer);
        notSaved("firstError", LeafCradles::firstError);
        notSaved("volume", x -> x.volume(0, 10));
        notSaved("leaf", x -> x.leaf(0, 0, 3));
        notSaved("cradle", x -> x.cradle(0, 5));
        notSaved("carrier", x -> x.carrier(0, 3));
        notSaved("log", x -> x.log(0, 4));
        notSaved("whereAt", x -> x.whereAt(0, 8));
        notSaved("count", x -> x.count(12));
        notSaved("setting", x -> x.setting(3));
        notSaved("whyNot", x -> x.whyNot(1, 1, 0));
        notSaved("ifPassed", x -> x.ifPassed(500, -1));
        notSaved("ifPassed of a cradle", x -> x.ifPassed(500, 0));
        notSaved("doneIn", LeafCradles::doneIn);
        notSaved("quickest", x -> x.quickest(1));
        notSaved("bestLoad", x -> x.bestLoad(100, 0));
        notSaved("openShare", x -> (long) x.openShare());
        notSaved("digest", LeafCradles::digest);
    }

    static void testMostSaves() {
        about("At most 6 states are saved; the oldest one is dropped first.");
        LeafCradles x = new LeafCradles();
        for (int i = 1; i <= 7; i++) {
            x.setYear(1900 + i);
            due("saved states", x.count(13), Math.min(6, i));
        }
        for (int left = 5; left >= 0; left--) {
            due("undo()", x.undo(), left);
            due("the year", x.count(4), 1901 + left);
        }
        refused("undo() of the one that was dropped", x, STATE, x::undo);
        due("the year", x.count(4), 1901);
    }

    static void testUndoOfNothing() {
        about("Throws IllegalStateException if there is none");
        LeafCradles x = new LeafCradles();
        refused("undo()", x, STATE, x::undo);
        x.addCarrier();
        due("undo() of the only one", x.undo(), 0);
        refused("undo() once more", x, STATE, x::undo);
        due("carriers", x.count(2), 0);
    }

    /** Saves and undoes in many orders, against a stack that forgets from below. */
    static void testSavesGoRound() {
        about("Restores the latest saved state, and drops it.");
        LeafCradles x = new LeafCradles();
        Deque<Integer> saved = new ArrayDeque<>();
        int year = 2000;
        int[] turns = {3, -2, 7, -4, 1, -3, 9, -6, 2, -2, 6, -5, 13, -1, 4, -6};
        for (int turn : turns) {
            for (int i = 0; i < turn; i++) {
                saved.addLast(year);
                if (saved.size() > 6) {
                    saved.removeFirst();
                }
                year = 1800 + (7 * year + 13) % 400;
                x.setYear(year);
                due("saved states", x.count(13), saved.size());
            }
            for (int i = 0; i > turn && !saved.isEmpty(); i--) {
                year = saved.removeLast();
                due("undo()", x.undo(), saved.size());
                due("the year", x.count(4), year);
            }
        }
    }

    static void testUndoIsNotSaved() {
        about("all but the buffer and the saved states");
        LeafCradles x = new LeafCradles();
        x.setYear(1901);
        x.setYear(1902);
        x.undo();
        due("saved states", x.count(13), 1);
        x.setYear(1903);
        due("undo()", x.undo(), 1);
        due("undo()", x.undo(), 0);
        due("the year", x.count(4), 2000);
    }

    static void testAllIsRestored() {
        about("undo: Restores the latest saved state: what comes in again is new");
        LeafCradles x = new LeafCradles();
        x.addVolume(5, 1, 3, 0);
        x.addCradle(3, 2);
        x.addCarrier();
        x.bring(0, 0, 0);
        x.pass(9);
        append(x, "0-2:1900");
        x.bar(0);
        for (int i = 0; i < 6; i++) {
            x.undo();
        }
        due("volumes", x.count(0), 0);
        due("cradles", x.count(1), 0);
        due("carriers", x.count(2), 0);
        due("entries", x.count(5), 0);
        due("minute", x.count(3), 0);
        x.addVolume(7, 2, 4, 1);
        x.addCradle(2, 1);
        x.addCarrier();
        dueAll("volume(0, what)", (y, what) -> y.volume(0, what), x, 7, 2, 4, 1, 0, -1, 0, 0, 0, 0, 0, 0);
        dueAll("leaf(0, 0, what)", (y, what) -> y.leaf(0, 0, what), x, 0, 0, 0, 0);
        dueAll("cradle(0, what)", (y, what) -> y.cradle(0, what), x, 2, 1, -1, 0, 0, 1);
        dueAll("carrier(0, what)", (y, what) -> y.carrier(0, what), x, 0, 0, 0, 0);
        refused("log(0, 0)", x, INDEX, () -> x.log(0, 0));
        due("whereAt(0, 0)", x.whereAt(0, 0), -1);
    }

    static void testPassIsOneCall() {
        about("Lets minutes pass. Undoable, as one call.");
        LeafCradles x = laid(40, 0);
        x.pass(500);
        due("saved states", x.count(13), 6);
        due("undo()", x.undo(), 5);
        due("the minute", x.count(3), 1);
        due("leaves", x.count(7), 0);
        due("state", x.volume(0, 3), 0);
        due("strain", x.volume(0, 4), 0);
        due("scanned on the cradle", x.cradle(0, 4), 0);
    }

    private static void refusedWholly(String what, Maker maker, Class<?> want, CallOn call) {
        LeafCradles x = maker.make();
        refused(what, x, want, () -> call.answer(x));
        same("the refused " + what, x, maker.make());
    }

    static void testRefusedCallsChangeNothing() {
        about("A call that throws an exception changes nothing.");
        Maker m = Checks::mixed;
        refusedWholly("addVolume", m, ARGUMENT, x -> x.addVolume(1, 1, 1, 4));
        refusedWholly("addCradle", m, ARGUMENT, x -> x.addCradle(1, 3));
        refusedWholly("set, setting", m, INDEX, x -> x.set(4, 1));
        refusedWholly("set, value", m, ARGUMENT, x -> x.set(3, 6));
        refusedWholly("setYear", m, ARGUMENT, x -> x.setYear(2200));
        refusedWholly("bring, number", m, INDEX, x -> x.bring(1, 2, 0));
        refusedWholly("bring, reason", m, STATE, x -> x.bring(1, 1, 0));
        refusedWholly("takeBack, number", m, INDEX, x -> x.takeBack(0, 2));
        refusedWholly("takeBack, carrier", m, STATE, x -> x.takeBack(0, 1));
        refusedWholly("takeBack, volume", m, STATE, x -> x.takeBack(1, 0));
        refusedWholly("pass, minutes", m, ARGUMENT, x -> x.pass(501));
        refusedWholly("pass, minute", Checks::atTheLastMinute, STATE, x -> x.pass(1));
        refusedWholly("reject, number", m, INDEX, x -> x.reject(0, 5));
        refusedWholly("reject, leaf", m, STATE, x -> x.reject(0, 4));
        refusedWholly("append", m, ARGUMENT, x -> x.append(127));
        refusedWholly("bar, number", m, INDEX, x -> x.bar(3));
        refusedWholly("bar, leaves", m, STATE, x -> x.bar(0));
        refusedWholly("bar, text", UndoEdgeTest::withAWrongText, ARGUMENT, x -> x.bar(0));
        refusedWholly("addVolume, full", UndoEdgeTest::full, STATE, x -> x.addVolume(0, 1, 1, 0));
        refusedWholly("addCradle, full", UndoEdgeTest::full, STATE, x -> x.addCradle(1, 0));
        refusedWholly("addCarrier, full", UndoEdgeTest::full, STATE, LeafCradles::addCarrier);
        refusedWholly("append, full", UndoEdgeTest::full, STATE, x -> x.append('1'));
        refusedWholly("bring, full log", () -> withEntries(60), STATE, x -> x.bring(0, 0, 0));
    }

    private static LeafCradles withAWrongText() {
        LeafCradles x = mixed();
        x.append(',');
        return x;
    }

    private static LeafCradles full() {
        LeafCradles x = new LeafCradles();
        for (int i = 0; i < 12; i++) {
            x.addVolume(i, 1, 2, 0);
        }
        for (int i = 0; i < 4; i++) {
            x.addCradle(1, 0);
        }
        for (int i = 0; i < 3; i++) {
            x.addCarrier();
        }
        append(x, "0-1:1800,0:1900,1:2000,0-1:1800,0:1900,1:2000,0-1:1800,0:199");
        return x;
    }

    static void testTheFirstOfSeveralExceptions() {
        about("If several exceptions apply, the one that is named first in the throws clause is thrown.");
        refusedWholly("addVolume of a full archive", UndoEdgeTest::full, ARGUMENT, x -> x.addVolume(20, 1, 1, 0));
        refusedWholly("addVolume of a full archive, state", UndoEdgeTest::full, ARGUMENT, x -> x.addVolume(0, 1, 1, -1));
        refusedWholly("addCradle of a full archive", UndoEdgeTest::full, ARGUMENT, x -> x.addCradle(0, 0));
        refusedWholly("addCradle of a full archive, gentleness", UndoEdgeTest::full, ARGUMENT, x -> x.addCradle(1, 3));
        refusedWholly("append to a full buffer", UndoEdgeTest::full, ARGUMENT, x -> x.append(32));
        Maker m = Checks::mixed;
        refusedWholly("set", m, INDEX, x -> x.set(4, -1));
        refusedWholly("set below", m, INDEX, x -> x.set(-1, 1000));
        refusedWholly("bring of a volume on a cradle, by none", m, INDEX, x -> x.bring(0, 0, 2));
        refusedWholly("bring of a volume on a cradle, to none", m, INDEX, x -> x.bring(0, 2, 0));
        refusedWholly("bring of none to a cradle that is not free", m, INDEX, x -> x.bring(3, 0, 1));
        refusedWholly("takeBack from its box by none", m, INDEX, x -> x.takeBack(1, 2));
        refusedWholly("takeBack of none by one who is busy", m, INDEX, x -> x.takeBack(3, 1));
        refusedWholly("pass at the last minute", Checks::atTheLastMinute, ARGUMENT, x -> x.pass(501));
        refusedWholly("pass(0) at the last minute", Checks::atTheLastMinute, ARGUMENT, x -> x.pass(0));
        refusedWholly("bar of none by a wrong text", UndoEdgeTest::withAWrongText, INDEX, x -> x.bar(3));
        refusedWholly("bar of none by leaves that it has not", m, INDEX, x -> x.bar(-1));
        refusedWholly("bar by a wrong text of leaves that it has not", UndoEdgeTest::withAWrongText, ARGUMENT, x -> x.bar(0));
        refusedWholly("volume", m, INDEX, x -> x.volume(3, 12));
        refusedWholly("leaf of no volume", m, INDEX, x -> x.leaf(3, 0, 4));
        refusedWholly("leaf", m, INDEX, x -> x.leaf(0, 5, 4));
        refusedWholly("cradle", m, INDEX, x -> x.cradle(2, 6));
        refusedWholly("carrier", m, INDEX, x -> x.carrier(2, 4));
        refusedWholly("log", m, INDEX, x -> x.log(3, 5));
        refusedWholly("whereAt", m, INDEX, x -> x.whereAt(3, 9));
        refusedWholly("ifPassed", m, INDEX, x -> x.ifPassed(0, 2));
        refusedWholly("ifPassed, 501", m, INDEX, x -> x.ifPassed(501, -2));
    }

    static void testTheLastCall() {
        about("An object is used for at most 512 calls after it has been made");
        LeafCradles x = laid(40, 0);
        for (int call = 6; call <= 508; call++) {
            x.pass(1);
        }
        due("the call 509", x.count(3), 504);
        due("the call 510", x.count(13), 6);
        due("the call 511", x.undo(), 5);
        due("the call 512", x.count(3), 503);
    }

    public static void main(String[] args) {
        runAll(UndoEdgeTest.class);
    }
}
