import java.util.ArrayList;
import java.util.List;

/** Promises 11 to 14: behind every beginning of a list of bars, which characters are errors, and which texts are whole. */
public final class BarTextTest extends Checks {
    private static final String SIGNS = "0123456789-:,/;!~";

    private static boolean takesAsList(LeafCradles x) {
        try {
            x.bar(0);
            return true;
        } catch (IllegalArgumentException e) {
            return false;
        }
    }

    private static void tryBehind(String beginning) {
        LeafCradles x = new LeafCradles();
        x.addVolume(0, 1, 40, 0);
        for (int i = 0; i < SIGNS.length(); i++) {
            String text = beginning + SIGNS.charAt(i);
            x.clearBuffer();
            append(x, text);
            int want = NaiveArchive.beginsList(text) ? text.length() : text.length() - 1;
            due("firstError() of " + text, x.firstError(), want);
            due("bar(0) of " + text + " takes it", takesAsList(x) ? 1 : 0, NaiveArchive.isList(text) ? 1 : 0);
        }
    }

    private static List<String> leavesOfParts() {
        List<String> all = new ArrayList<>();
        for (int first = 0; first < 40; first++) {
            all.add(first + ":");
            for (int last = first + 1; last < 40; last++) {
                all.add(first + "-" + last + ":");
            }
        }
        return all;
    }

    private static List<String> beginnings() {
        java.util.Set<String> all = new java.util.LinkedHashSet<>();
        for (String leaves : leavesOfParts()) {
            for (int length = 0; length <= leaves.length(); length++) {
                all.add(leaves.substring(0, length));
            }
        }
        for (String leaves : new String[] {"0:", "39:", "38-39:", "5:1800,7-19:"}) {
            for (int year = 1800; year <= 2199; year++) {
                for (int length = 0; length <= 4; length++) {
                    all.add(leaves + ("" + year).substring(0, length));
                }
            }
            all.add(leaves + "2199,");
            all.add(leaves + "1800,3-");
        }
        return new ArrayList<>(all);
    }

    private static void testTheFirstErrorStays() {
        LeafCradles x = new LeafCradles();
        append(x, "1:1850,x1:1850");
        due("firstError() behind an error", x.firstError(), 7);
        append(x, ",");
        due("firstError() once more", x.firstError(), 7);
    }

    /** The buffer's end is no error: lists of any length count. */
    private static void testTheLimitOfTheBuffer() {
        LeafCradles x = new LeafCradles();
        x.addVolume(0, 1, 40, 0);
        append(x, "0:1800,1:1801,2:1802,3:1803,4:1804,5:1805,6:1806,7:1807,38-3");
        due("firstError() of a full buffer", x.firstError(), 60);
        due("a full buffer that is not complete", takesAsList(x) ? 1 : 0, 0);
        x.clearBuffer();
        append(x, "0:1800,1:1801,2:1802,3:1803,4:1804,5:1805,6:1806,10-20:2199");
        x.append('x');
        due("firstError() at the last place", x.firstError(), 59);
        x.clearBuffer();
        append(x, "10:1800,11:1801,2:1802,3:1803,4:1804,5:1805,6:1806,9-20:2199");
        due("bar(0) of a full list", x.bar(0), 17);
    }

    private static void testBehindEachBeginning() {
        for (String beginning : beginnings()) {
            tryBehind(beginning);
        }
    }

    public static void main(String[] args) {
        runAll(BarTextTest.class);
    }
}
