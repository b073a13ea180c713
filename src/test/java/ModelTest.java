/**
 * Long runs of calls, the same in each session, on LeafCradles and on NaiveArchive: every answer
 * and every exception must be the same. The numbers come from a counter of its own.
 */
public final class ModelTest {
    private static final int RUNS = 300;
    private static final int CALLS = 512;

    private static final int ADD_VOLUME = 0;
    private static final int ADD_CRADLE = 1;
    private static final int ADD_CARRIER = 2;
    private static final int SET = 3;
    private static final int SET_YEAR = 4;
    private static final int BRING = 5;
    private static final int TAKE_BACK = 6;
    private static final int PASS = 7;
    private static final int REJECT = 8;
    private static final int APPEND = 9;
    private static final int CLEAR = 10;
    private static final int FIRST_ERROR = 11;
    private static final int BAR = 12;
    private static final int UNDO = 13;
    private static final int VOLUME = 14;
    private static final int LEAF = 15;
    private static final int CRADLE = 16;
    private static final int CARRIER = 17;
    private static final int LOG = 18;
    private static final int WHERE_AT = 19;
    private static final int COUNT = 20;
    private static final int SETTING = 21;
    private static final int WHY_NOT = 22;
    private static final int IF_PASSED = 23;
    private static final int DONE_IN = 24;
    private static final int QUICKEST = 25;
    private static final int BEST_LOAD = 26;
    private static final int OPEN_SHARE = 27;
    private static final int DIGEST = 28;

    private static final String[] NAMES = {"addVolume", "addCradle", "addCarrier", "set", "setYear", "bring", "takeBack", "pass", "reject",
        "append", "clearBuffer", "firstError", "bar", "undo", "volume", "leaf", "cradle", "carrier", "log", "whereAt", "count", "setting",
        "whyNot", "ifPassed", "doneIn", "quickest", "bestLoad", "openShare", "digest"};

    private static long seed;
    private static int wrong = 0;
    private static final int[] answered = new int[NAMES.length];
    private static final int[] thrown = new int[NAMES.length];
    private static final int[] reasons = new int[9];

    private static int below(int bound) {
        seed = seed * 6364136223846793005L + 1442695040888963407L;
        return (int) ((seed >>> 33) % bound);
    }

    /** A number from least to greatest, seldom one beside them. */
    private static int about(int least, int greatest) {
        int kind = below(40);
        if (kind == 0) {
            return least - 1;
        }
        if (kind == 1) {
            return greatest + 1;
        }
        if (kind == 2) {
            return below(2) == 0 ? Integer.MIN_VALUE : Integer.MAX_VALUE;
        }
        return greatest < least ? least : least + below(greatest - least + 1);
    }

    private static long ask(LeafCradles x, int call, int[] a) {
        switch (call) {
            case ADD_VOLUME: return x.addVolume(a[0], a[1], a[2], a[3]);
            case ADD_CRADLE: return x.addCradle(a[0], a[1]);
            case ADD_CARRIER: return x.addCarrier();
            case SET: return x.set(a[0], a[1]);
            case SET_YEAR: return x.setYear(a[0]);
            case BRING: return x.bring(a[0], a[1], a[2]);
            case TAKE_BACK: return x.takeBack(a[0], a[1]);
            case PASS: return x.pass(a[0]);
            case REJECT: return x.reject(a[0], a[1]);
            case APPEND: return x.append(a[0]);
            case CLEAR: return x.clearBuffer();
            case FIRST_ERROR: return x.firstError();
            case BAR: return x.bar(a[0]);
            case UNDO: return x.undo();
            case VOLUME: return x.volume(a[0], a[1]);
            case LEAF: return x.leaf(a[0], a[1], a[2]);
            case CRADLE: return x.cradle(a[0], a[1]);
            case CARRIER: return x.carrier(a[0], a[1]);
            case LOG: return x.log(a[0], a[1]);
            case WHERE_AT: return x.whereAt(a[0], a[1]);
            case COUNT: return x.count(a[0]);
            case SETTING: return x.setting(a[0]);
            case WHY_NOT: return x.whyNot(a[0], a[1], a[2]);
            case IF_PASSED: return x.ifPassed(a[0], a[1]);
            case DONE_IN: return x.doneIn();
            case QUICKEST: return x.quickest(a[0]);
            case BEST_LOAD: return x.bestLoad(a[0], a[1]);
            case OPEN_SHARE: return Double.doubleToLongBits(x.openShare());
            default: return x.digest();
        }
    }

    private static long askNaive(NaiveArchive x, int call, int[] a) {
        switch (call) {
            case ADD_VOLUME: return x.addVolume(a[0], a[1], a[2], a[3]);
            case ADD_CRADLE: return x.addCradle(a[0], a[1]);
            case ADD_CARRIER: return x.addCarrier();
            case SET: return x.set(a[0], a[1]);
            case SET_YEAR: return x.setYear(a[0]);
            case BRING: return x.bring(a[0], a[1], a[2]);
            case TAKE_BACK: return x.takeBack(a[0], a[1]);
            case PASS: return x.pass(a[0]);
            case REJECT: return x.reject(a[0], a[1]);
            case APPEND: return x.append(a[0]);
            case CLEAR: return x.clearBuffer();
            case FIRST_ERROR: return x.firstError();
            case BAR: return x.bar(a[0]);
            case UNDO: return x.undo();
            case VOLUME: return x.volume(a[0], a[1]);
            case LEAF: return x.leaf(a[0], a[1], a[2]);
            case CRADLE: return x.cradle(a[0], a[1]);
            case CARRIER: return x.carrier(a[0], a[1]);
            case LOG: return x.log(a[0], a[1]);
            case WHERE_AT: return x.whereAt(a[0], a[1]);
            case COUNT: return x.count(a[0]);
            case SETTING: return x.setting(a[0]);
            case WHY_NOT: return x.whyNot(a[0], a[1], a[2]);
            case IF_PASSED: return x.ifPassed(a[0], a[1]);
            case DONE_IN: return x.doneIn();
            case QUICKEST: return x.quickest(a[0]);
            case BEST_LOAD: return x.bestLoad(a[0], a[1]);
            case OPEN_SHARE: return Double.doubleToLongBits(x.openShare());
            default: return x.digest();
        }
    }

    private static int[] arguments(NaiveArchive x, int call) {
        int volumes = x.world.volumes.size() - 1;
        int cradles = x.world.cradles.size() - 1;
        int carriers = x.world.carriers.size() - 1;
        int v = about(0, volumes);
        int leaves = v >= 0 && v <= volumes ? x.world.volumes.get(v).condition.length - 1 : 0;
        switch (call) {
            case ADD_VOLUME: return new int[] {about(0, 19), about(1, 3), about(1, below(3) == 0 ? 40 : 6), below(2) == 0 ? about(0, 3) : 0};
            case ADD_CRADLE: return new int[] {about(1, 3), about(0, 2)};
            case SET: return settingArguments();
            case SET_YEAR: return new int[] {below(2) == 0 ? about(1800, 2199) : about(1990, 2010)};
            case BRING:
            case WHY_NOT: return new int[] {v, about(0, cradles), about(0, carriers)};
            case TAKE_BACK: return new int[] {v, about(0, carriers)};
            case PASS: return new int[] {below(4) == 0 ? about(1, 500) : about(1, 12)};
            case REJECT: return new int[] {v, about(0, leaves)};
            case APPEND: return new int[] {below(2) == 0 ? about(33, 126) : "0123456789,-:".charAt(below(13))};
            case BAR:
            case QUICKEST: return new int[] {v};
            case VOLUME: return new int[] {v, about(0, 11)};
            case LEAF: return new int[] {v, about(0, leaves), about(0, 3)};
            case CRADLE: return new int[] {about(0, cradles), about(0, 5)};
            case CARRIER: return new int[] {about(0, carriers), about(0, 3)};
            case LOG: return new int[] {about(0, x.world.log.size() - 1), about(0, 4)};
            case WHERE_AT: return new int[] {v, about(0, x.world.minute)};
            case COUNT: return new int[] {about(0, 13)};
            case SETTING: return new int[] {about(0, 3)};
            case IF_PASSED: return new int[] {below(2) == 0 ? about(1, 500) : about(1, 30), about(-1, cradles)};
            case BEST_LOAD: return new int[] {about(1, 100), about(0, 4)};
            default: return new int[0];
        }
    }

    private static int[] settingArguments() {
        int setting = about(0, 3);
        if (setting == 2) {
            return new int[] {2, below(3) == 0 ? about(1, 200) : about(1, 12)};
        }
        return new int[] {setting, about(setting == 0 ? 1 : 0, setting == 3 ? 5 : 9)};
    }

    /** Appends a text that is nearly always a list of bars, as far as the calls last. */
    private static int appendList(int run, LeafCradles x, NaiveArchive y) {
        StringBuilder list = new StringBuilder();
        int parts = 1 + below(3);
        for (int i = 0; i < parts; i++) {
            int first = below(below(2) == 0 ? 4 : 40);
            list.append(i == 0 ? "" : ",").append(first);
            if (below(2) == 0) {
                list.append('-').append(first + below(5) + (below(8) == 0 ? -1 : 1));
            }
            list.append(':').append(below(10) == 0 ? 1780 + below(450) : 1990 + below(20));
        }
        for (int i = 0; i < list.length(); i++) {
            compare(run, x, y, APPEND, new int[] {list.charAt(i)});
        }
        return list.length();
    }

    private static void compare(int run, LeafCradles x, NaiveArchive y, int call, int[] arguments) {
        String got;
        String want;
        try {
            got = "" + ask(x, call, arguments);
            answered[call]++;
        } catch (RuntimeException e) {
            got = e.getClass().getSimpleName();
            thrown[call]++;
        }
        try {
            want = "" + askNaive(y, call, arguments);
        } catch (IndexOutOfBoundsException | IllegalArgumentException | IllegalStateException e) {
            want = e.getClass().getSimpleName();
        }
        if (call == WHY_NOT && want.length() == 1) {
            reasons[want.charAt(0) - '0']++;
        }
        if (!got.equals(want)) {
            wrong++;
            if (wrong <= 20) {
                System.out.println("run " + run + ": " + NAMES[call] + java.util.Arrays.toString(arguments) + " answered " + got + ", due is " + want);
            }
        }
    }

    private static int pick() {
        int[] often = {BRING, BRING, BRING, PASS, PASS, PASS, TAKE_BACK, TAKE_BACK, REJECT, REJECT, WHY_NOT, DIGEST, DIGEST, UNDO};
        return below(3) == 0 ? below(NAMES.length) : often[below(often.length)];
    }

    /**
     * Brings a volume that can be brought, or takes one back, or lets a minute pass: so the log comes to
     * its end long before the calls do, and volumes are moved behind many scans.
     */
    private static void walk(int number, LeafCradles x, NaiveArchive y) {
        int volumes = y.world.volumes.size();
        int cradles = y.world.cradles.size();
        int carriers = y.world.carriers.size();
        for (int trial = 0; trial < 8 && volumes > 0 && cradles > 0 && carriers > 0; trial++) {
            int v = below(volumes);
            int cradle = below(cradles);
            int carrier = below(carriers);
            if (y.world.volumes.get(v).cradle != NaiveArchive.NONE && below(3) == 0) {
                compare(number, x, y, TAKE_BACK, new int[] {v, carrier});
                return;
            }
            int reason = y.whyNot(v, cradle, carrier);
            if (reason == 0 || reason == 8) {
                compare(number, x, y, reason == 8 && below(2) == 0 ? WHY_NOT : BRING, new int[] {v, cradle, carrier});
                return;
            }
        }
        compare(number, x, y, PASS, new int[] {1 + below(3)});
    }

    private static void run(int number) {
        seed = number * 7919L + 17L;
        LeafCradles x = new LeafCradles();
        NaiveArchive y = new NaiveArchive();
        int calls = 0;
        boolean started = number % 4 != 0;
        for (int i = 0; started && i < 14 + number % 6; i++, calls++) {
            int call = i < 4 ? ADD_CRADLE : i < 7 ? ADD_CARRIER : ADD_VOLUME;
            compare(number, x, y, call, arguments(y, call));
        }
        boolean seldomUndo = number % 3 == 0;
        boolean walks = number % 5 == 1;
        while (calls < CALLS - 1) {
            if (walks && below(8) > 0) {
                walk(number, x, y);
                calls++;
                continue;
            }
            int call = pick();
            if (call == UNDO && seldomUndo && below(4) > 0) {
                call = DIGEST;
            }
            if (call == APPEND && below(3) > 0 && calls < CALLS - 80) {
                compare(number, x, y, CLEAR, new int[0]);
                calls += 1 + appendList(number, x, y);
                compare(number, x, y, FIRST_ERROR, new int[0]);
                compare(number, x, y, DIGEST, new int[0]);
                calls += 2;
                call = BAR;
            }
            compare(number, x, y, call, arguments(y, call));
            calls++;
        }
        compare(number, x, y, DIGEST, new int[0]);
    }

    public static void main(String[] args) {
        for (int number = 0; number < RUNS; number++) {
            run(number);
        }
        for (int call = 0; call < NAMES.length; call++) {
            if (answered[call] < 50) {
                wrong++;
                System.out.println(NAMES[call] + " was answered only " + answered[call] + " times");
            }
        }
        for (int reason = 0; reason < reasons.length; reason++) {
            if (reasons[reason] < 50) {
                wrong++;
                System.out.println("the reason " + reason + " came only " + reasons[reason] + " times");
            }
        }
        System.out.println(wrong == 0 ? "all runs are as due" : wrong + " answers are not as due");
        if (wrong != 0) {
            System.exit(1);
        }
    }
}
