/** The buffer and the lists of bars: the edge of each sentence. */
public final class TextEdgeTest extends Checks {
    private static LeafCradles withText(int leaves, String text) {
        LeafCradles x = new LeafCradles();
        x.addVolume(0, 1, leaves, 0);
        append(x, text);
        return x;
    }

    private static void errorAt(String text, int want) {
        LeafCradles x = withText(40, text);
        due("firstError() of " + text, x.firstError(), want);
        due("firstError() of " + text + " once more", x.firstError(), want);
        if (want < text.length()) {
            refused("bar(0) of " + text, x, ARGUMENT, () -> x.bar(0));
        }
    }

    /** The whole text begins a list, but is none. */
    private static void begins(String... texts) {
        for (String text : texts) {
            errorAt(text, text.length());
            LeafCradles x = withText(40, text);
            refused("bar(0) of " + text, x, ARGUMENT, () -> x.bar(0));
        }
    }

    /** All but the last character begins a list, and this one is the error. */
    private static void endsWithAnError(String... texts) {
        for (String text : texts) {
            errorAt(text, text.length() - 1);
        }
    }

    private static void complete(String text, int barred) {
        errorAt(text, text.length());
        due("bar(0) of " + text, withText(40, text).bar(0), barred);
    }

    static void testMostCharacters() {
        about("The buffer has at most 60 characters.");
        LeafCradles x = new LeafCradles();
        for (int i = 1; i <= 60; i++) {
            due("append", x.append(33 + i), i);
        }
        refused("append to 60 characters", x, STATE, () -> x.append('1'));
        due("clearBuffer()", x.clearBuffer(), 60);
        due("clearBuffer() of none", x.clearBuffer(), 0);
        due("append to none", x.append('1'), 1);
        append(x, "23456789012345678901234567890123456789012345678901234567890");
        refused("append to 60 characters again", x, STATE, () -> x.append('1'));
    }

    static void testCodes() {
        about("code: the character code, 33 to 126");
        range("append", LeafCradles::new, 33, 126, ARGUMENT, LeafCradles::append);
        LeafCradles x = withText(1, "");
        for (int code = 33; code <= 92; code++) {
            x.append(code);
        }
        refused("append of 32 to 60 characters", x, ARGUMENT, () -> x.append(32));
        refused("append of 127 to 60 characters", x, ARGUMENT, () -> x.append(127));
    }

    static void testEmptyBuffer() {
        about("A list of bars is one or more parts");
        begins("");
        endsWithAnError(",", ":", "-", "x", "!", "~", "/", ";");
    }

    static void testParts() {
        about("with \",\" between them");
        complete("0:1800", 1);
        complete("0:1800,1:1800", 2);
        complete("0:1800,1:1800,2-4:1800", 5);
        begins("0:1800,", "0:1800,1:1800,");
        endsWithAnError("0:1800,,", "0,", "0-1,", "0-,", "0:,", "0:180,", "0:1800;", "0:1800:", "0:1800-");
        errorAt("0:1800,x:1800", 7);
    }

    static void testNumberOfALeaf() {
        about("A part is the number of a leaf, 0 to 39");
        begins("0", "9", "10", "39", "4");
        endsWithAnError("40", "41", "49", "50", "99", "100", "390", "391");
        complete("39:1800", 1);
    }

    static void testTwoLeaves() {
        about("or two of these with \"-\" between them, the second one greater than the first");
        begins("0-", "38-", "0-1", "38-3", "38-39", "0-39", "3-1", "3-2", "3-3", "2-3", "9-1", "10-1", "18-1", "29-3", "35-3");
        endsWithAnError("39-", "38-4", "38-38", "38-2", "0-0", "1-0", "9-9", "9-4", "3-0", "19-1", "29-2", "10-10", "10-2:", "35-35", "35-34", "35-4");
        endsWithAnError("3-1:", "3-2:", "3-3:", "2-2:", "0-40", "0-4,", "9-8", "1-2-", "1--");
        complete("38-39:1800", 2);
        complete("0-39:1800", 40);
        complete("0-1:1800", 2);
        complete("3-10:1800", 8);
    }

    static void testColonAndYear() {
        about("then \":\" and a year, 1800 to 2199");
        begins("0:", "0:1", "0:2", "0:18", "0:19", "0:20", "0:21", "0:180", "0:219");
        endsWithAnError("0:0", "0:3", "0:9", "0:17", "0:10", "0:16", "0:22", "0:29", "0::", "0:-");
        endsWithAnError("0:18000", "0:21990", "0:1800x");
        errorAt("0:1799", 3);
        errorAt("0:2200", 3);
        complete("0:1800", 1);
        complete("0:2199", 1);
        complete("0:1999", 1);
        complete("0:2000", 1);
    }

    static void testLeadingZeros() {
        about("Numbers have no leading zeros.");
        endsWithAnError("00", "01", "09", "0-0", "1-0", "0:0", "1:1800,00", "1:1800,01");
        errorAt("0-01", 2);
        begins("0", "10", "20", "0-10", "0-20");
        errorAt("0:01800", 2);
        complete("10:1800", 1);
    }

    static void testOfAnyLength() {
        about("a character is a syntax error if no list of bars, of any length, begins with the characters before it and this character");
        String seven = "0:1800,1:1801,2:1802,3:1803,4:1804,5:1805,6:1806,";
        begins(seven + "10-20:2199,", seven + "7:1807,38-3", seven + "7:1807,8:21");
        endsWithAnError(seven + "7:1807,38-4", seven + "7:1807,8:22", seven + "10-20:2199x");
        complete(seven + "10-20:2199", 18);
        complete("10:1800,11:1801,2:1802,3:1803,4:1804,5:1805,6:1806,9-20:2199", 17);
    }

    static void testTheMostParts() {
        about("A list of bars is one or more parts: the most that the buffer takes");
        complete("0:1800,1:1801,2:1802,3:1803,4:1804,5:1805,6:1806,7:1807", 8);
        LeafCradles x = withText(8, "0:1800,1:1801,2:1802,3:1803,4:1804,5:1805,6:1806,7:1807");
        x.bar(0);
        dueAll("leaf(0, leaf, 2)", (y, leaf) -> y.leaf(0, leaf, 2), x, 1800, 1801, 1802, 1803, 1804, 1805, 1806, 1807);
    }

    static void testReadFromTheLeft() {
        about("Finds the first syntax error of the buffer.");
        errorAt("x0:1800", 0);
        errorAt("0x1800x", 1);
        errorAt("1:1850,x1:1850x", 7);
        errorAt("1:1750,0:1800", 3);
        LeafCradles x = withText(1, "0:1800");
        due("saved states ahead of it", x.count(13), 1);
        x.firstError();
        due("the buffer stays", x.clearBuffer(), 6);
        due("saved states", x.count(13), 1);
    }

    static void testBarOfTheLastPart() {
        about("(of several parts for a leaf the last one)");
        LeafCradles x = withText(5, "0-4:1900,1:1950,3-4:1960,3:1970,1:1940");
        due("bar(0)", x.bar(0), 5);
        dueAll("leaf(0, leaf, 2)", (y, leaf) -> y.leaf(0, leaf, 2), x, 1900, 1940, 1900, 1970, 1960);
    }

    static void testOtherBarsStay() {
        about("and clears the buffer; the bars of other leaves stay");
        LeafCradles x = withText(4, "1-2:1900");
        x.addVolume(0, 1, 4, 0);
        due("bar(0)", x.bar(0), 2);
        due("the buffer", x.clearBuffer(), 0);
        append(x, "2-3:2199");
        due("bar(0) of one anew and one more", x.bar(0), 3);
        dueAll("leaf(0, leaf, 2)", (y, leaf) -> y.leaf(0, leaf, 2), x, 0, 1900, 2199, 2199);
        append(x, "0:1800");
        due("bar(1)", x.bar(1), 1);
        dueAll("leaf(1, leaf, 2)", (y, leaf) -> y.leaf(1, leaf, 2), x, 1800, 0, 0, 0);
        due("leaf 0 of the other volume", x.leaf(0, 0, 2), 0);
        refused("bar(0) of the buffer that is clear", x, ARGUMENT, () -> x.bar(0));
    }

    static void testAllOfTheseLeaves() {
        about("Throws IllegalStateException if the volume does not have all of these leaves");
        due("bar(0) of the last leaf", withText(4, "3:1800").bar(0), 1);
        due("bar(0) up to the last leaf", withText(4, "0-3:1800").bar(0), 4);
        due("bar(0) of the only leaf", withText(1, "0:1800").bar(0), 1);
        due("bar(0) of the last of 40", withText(40, "39:1800").bar(0), 1);
        for (String text : new String[] {"4:1800", "0-4:1800", "4-5:1800", "4:1800,0:1800", "0:1800,4:1800", "0:1800,2-4:1800,1:1800"}) {
            LeafCradles x = withText(4, text);
            refused("bar(0) of " + text, x, STATE, () -> x.bar(0));
            due("the buffer stays", x.clearBuffer(), text.length());
        }
        LeafCradles one = withText(1, "1:1800");
        refused("bar(0) of leaf 1 of 1", one, STATE, () -> one.bar(0));
        LeafCradles most = withText(39, "39:1800");
        refused("bar(0) of leaf 39 of 39", most, STATE, () -> most.bar(0));
    }

    static void testNoSuchVolume() {
        about("bar: Throws IndexOutOfBoundsException if there is no such volume");
        range("bar", () -> withText(40, "0:1800"), 0, 0, INDEX, LeafCradles::bar);
        range("bar of an incomplete list", () -> {
            LeafCradles x = withText(40, "0:1800");
            x.addVolume(0, 1, 1, 0);
            return x;
        }, 0, 1, INDEX, LeafCradles::bar);
    }

    static void testWrongListsChangeNothing() {
        about("Throws IllegalArgumentException if the buffer is not a complete list of bars");
        for (String text : new String[] {"", "0", "0:", "0:180", "0:1800,", "0:1800,1", "0:1800x", "x", "9", "9:1800,"}) {
            LeafCradles x = withText(4, text);
            refused("bar(0) of " + text, x, ARGUMENT, () -> x.bar(0));
            due("saved states", x.count(13), 1);
            due("the buffer stays", x.clearBuffer(), text.length());
        }
    }

    public static void main(String[] args) {
        runAll(TextEdgeTest.class);
    }
}
