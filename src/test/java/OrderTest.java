import java.util.Arrays;

/** The sentences of promises 24 to 29 that name a boundary: texts compared, changed and kept, and kinds of points. */
public final class OrderTest extends Sentences {
    private static void compares(CharRows x, int a, int b, int way, int want) {
        String what = "compare of " + itemsOf(x, a) + " and " + itemsOf(x, b) + ", way " + way;
        took(x, what, x.compare(a, b, way), want);
        took(x, what + ", turned", x.compare(b, a, way), -want);
    }

    /** Two packed texts; then one of them listed, the other, both: the answers are the same. */
    private static void compares(int units, int points, int[] a, int[] b) {
        for (int sorts = 0; sorts < 4; sorts++) {
            CharRows x = new CharRows();
            lays(x, 0, sorts % 2, a);
            lays(x, 1, sorts / 2, b);
            compares(x, 0, 1, 0, units);
            compares(x, 0, 1, 1, points);
        }
    }

    /** As the document has it, told anew: what each way makes of a point. */
    private static int cased(int p, int way) {
        if (way == 0) {
            boolean isLesser = p >= 'a' && p <= 'z' || p >= 0xe0 && p <= 0xfe && p != 0xf7;
            return isLesser ? p - 32 : p == 0xff ? 376 : p;
        }
        boolean isGreater = p >= 'A' && p <= 'Z' || p >= 0xc0 && p <= 0xde && p != 0xd7;
        return isGreater ? p + 32 : p == 376 ? 0xff : p;
    }

    private static void changes(int way, int[] from, int[] into) {
        for (int sort = PACKED; sort <= LISTED; sort++) {
            CharRows x = new CharRows();
            lays(x, 0, sort, from);
            took(x, "change of " + Arrays.toString(from) + ", way " + way, x.change(1, 0, way), from.length);
            holds(x, 1, sort, into);
            holds(x, 0, sort, from);
        }
    }

    private static void kinds(int want, int... points) {
        CharRows x = new CharRows();
        for (int p : points) {
            due("kind(" + p + ")", x.kind(p), want);
        }
    }

    @Says(promise = 24, words = "Two TEXTS of one SORT, or one PACKED and one LISTED")
    static void theSortsThatAreCompared() {
        CharRows x = new CharRows();
        drafts(x, 97);
        for (int sort = PACKED; sort <= BYTES; sort++) {
            x.lay(sort, sort);
        }
        for (int way = 0; way < 2; way++) {
            for (int a = PACKED; a <= BYTES; a++) {
                for (int b = PACKED; b <= BYTES; b++) {
                    due("compare(" + a + ", " + b + ", " + way + ")", x.compare(a, b, way), 0);
                    due("code()", x.code(), (a == BYTES) == (b == BYTES) ? 0 : 2);
                }
            }
        }
    }

    @Says(promise = 24, words = "else by how many they have: -1 a is less, 0, 1.")
    static void emptyOnesAndThoseThatBeginAlike() {
        compares(0, 0, of(), of());
        compares(-1, -1, of(), of(0));
        compares(-1, -1, of(97), of(97, 0));
        compares(0, 0, of(97, 98), of(97, 98));
        compares(-1, -1, times(59, 97), times(60, 97));
        compares(0, 0, times(60, 97), times(60, 97));
    }

    @Says(promise = 24, words = "else by how many they have: -1 a is less, 0, 1.")
    static void longOnesThatWereComparedBeforeTellNothing() {
        for (int sort = PACKED; sort <= BYTES; sort++) {
            CharRows x = new CharRows();
            lays(x, 0, sort, 200, 200, 200);
            lays(x, 1, sort, 97, 98);
            lays(x, 2, sort, 97);
            for (int way = 0; way < 2; way++) {
                took(x, "compare(0, 0, " + way + ")", x.compare(0, 0, way), 0);
                took(x, "compare(1, 2, " + way + ")", x.compare(1, 2, way), 1);
                took(x, "compare(0, 0, " + way + ")", x.compare(0, 0, way), 0);
                took(x, "compare(2, 1, " + way + ")", x.compare(2, 1, way), -1);
            }
        }
    }

    @Says(promise = 24, words = "by the first ITEM (WAY 0; of a LISTED one its UNITS), POINT (WAY 1) that is another one")
    static void theFirstOneThatIsAnotherTells() {
        compares(-1, -1, of(97), of(98));
        compares(-1, -1, of(97, 98, 98), of(98));
        compares(1, 1, of(97, 99), of(97, 98, 99));
        compares(-1, -1, of(0), of(65535));
        compares(-1, -1, rows(times(59, 97), 1), rows(times(59, 97), 2));
    }

    @Says(promise = 24, words = "by the first ITEM (WAY 0; of a LISTED one its UNITS), POINT (WAY 1) that is another one")
    static void unitsBehindThePairsAreLessAsPoints() {
        compares(1, -1, of(57344), of(HIGH, LOW));
        compares(1, -1, of(65535), of(56319, 57343));
        compares(-1, -1, of(55295), of(HIGH, LOW));
        compares(-1, -1, of(HIGH, LOW), of(HIGH, LOW + 1));
        compares(-1, -1, of(HIGH, 57343), of(HIGH + 1, LOW));
        compares(1, -1, of(97, 57344), of(97, HIGH, LOW, 98));
    }

    @Says(promise = 24, words = "by the first ITEM (WAY 0; of a LISTED one its UNITS), POINT (WAY 1) that is another one")
    static void halvesThatAreAlone() {
        compares(-1, -1, of(HIGH), of(HIGH, LOW));
        compares(1, -1, of(LOW), of(HIGH, LOW));
        compares(1, -1, of(HIGH, 57344), of(HIGH, LOW));
        compares(1, -1, of(HIGH + 1), of(HIGH, LOW));
    }

    @Says(promise = 24, words = "of a LISTED one its UNITS")
    static void listedHalvesAreThePairsUnits() {
        CharRows x = new CharRows();
        lays(x, 0, LISTED, HIGH);
        lays(x, 1, LISTED, LOW);
        x.join(0, 0, 1);
        lays(x, 2, PACKED, HIGH, LOW);
        lays(x, 3, LISTED, HIGH, LOW);
        for (int t = 2; t < 4; t++) {
            compares(x, 0, t, 0, 0);
            compares(x, 0, t, 1, -1);
        }
    }

    @Says(promise = 24, words = "of a LISTED one its UNITS")
    static void sixtyListedPointsAre120Units() {
        CharRows x = new CharRows();
        laysGreat(x, 0, 60);
        x.cut(1, 0, 0, 59);
        x.fresh();
        x.point(65537);
        x.lay(2, LISTED);
        x.join(2, 1, 2);
        for (int way = 0; way < 2; way++) {
            took(x, "fewer", x.compare(1, 0, way), -1);
            took(x, "the last is greater", x.compare(2, 0, way), 1);
            took(x, "alike", x.compare(0, 0, way), 0);
        }
    }

    @Says(promise = 24, words = "BYTES: by bytes.")
    static void bytesAreComparedByBytesEitherWay() {
        CharRows x = new CharRows();
        lays(x, 0, BYTES);
        lays(x, 1, BYTES, 127);
        lays(x, 2, BYTES, 128);
        lays(x, 3, BYTES, 127, 0);
        lays(x, 4, BYTES, 255);
        for (int way = 0; way < 2; way++) {
            compares(x, 0, 0, way, 0);
            compares(x, 0, 1, way, -1);
            compares(x, 1, 2, way, -1);
            compares(x, 1, 3, way, -1);
            compares(x, 3, 2, way, -1);
            compares(x, 4, 1, way, 1);
        }
    }

    @Says(promise = 24, words = "BYTES: by bytes.")
    static void theLastOf240Bytes() {
        CharRows x = new CharRows();
        laysBytes(x, 0, times(240, 7));
        x.cut(1, 0, 0, 240);
        x.put(1, 239, 8);
        x.cut(2, 0, 0, 239);
        for (int way = 0; way < 2; way++) {
            took(x, "the last is less", x.compare(0, 1, way), -1);
            took(x, "fewer", x.compare(2, 0, way), -1);
        }
    }

    @Says(promise = 24, words = "CODES 1 (either), 2.")
    static void nothingGoesAheadOfAnotherSort() {
        CharRows x = new CharRows();
        x.lay(0, PACKED);
        x.lay(1, LISTED);
        x.lay(2, BYTES);
        for (int way = 0; way < 2; way++) {
            for (int t = 0; t < 3; t++) {
                refused(x, "b is nothing", x.compare(t, 9, way), 1);
                refused(x, "a is nothing", x.compare(9, t, way), 1);
            }
            refused(x, "both are", x.compare(9, 8, way), 1);
            for (int t = 0; t < 2; t++) {
                refused(x, "b is bytes", x.compare(t, 2, way), 2);
                refused(x, "a is bytes", x.compare(2, t, way), 2);
            }
            took(x, "packed and listed", x.compare(0, 1, way), 0);
        }
    }

    @Says(promise = 25, words = "WAY 0 greater: 97 to 122")
    static void greaterLettersFrom97To122() {
        changes(0, of(96, 97, 122, 123), of(96, 65, 90, 123));
    }

    @Says(promise = 25, words = "224 to 254 (but 247) less 32")
    static void greaterLettersFrom224To254() {
        changes(0, of(223, 224, 246, 247, 248, 254), of(223, 192, 214, 247, 216, 222));
    }

    @Says(promise = 25, words = "255 is 376;")
    static void theGreaterOneOf255() {
        changes(0, of(255, 256, 376, 375, 377), of(376, 256, 376, 375, 377));
    }

    @Says(promise = 25, words = "1 lesser: 65 to 90")
    static void lesserLettersFrom65To90() {
        changes(1, of(64, 65, 90, 91), of(64, 97, 122, 91));
    }

    @Says(promise = 25, words = "192 to 222 (but 215) and 32")
    static void lesserLettersFrom192To222() {
        changes(1, of(191, 192, 214, 215, 216, 222, 223), of(191, 224, 246, 215, 248, 254, 223));
    }

    @Says(promise = 25, words = "376 is 255;")
    static void theLesserOneOf376() {
        changes(1, of(376, 375, 377, 255), of(255, 375, 377, 255));
    }

    @Says(promise = 25, words = "with its POINTS in the other CASE")
    static void everyPointBelow480AndSomeGreatOnes() {
        for (int way = 0; way < 2; way++) {
            for (int first = 0; first < 480; first += 60) {
                int[] from = new int[60];
                int[] into = new int[60];
                for (int k = 0; k < 60; k++) {
                    from[k] = first + k;
                    into[k] = cased(first + k, way);
                }
                changes(way, from, into);
            }
            CharRows x = new CharRows();
            lays(x, 0, PACKED, HIGH, LOW + 97, HIGH, LOW + 65, 65535, 65535 - 255 + 97);
            x.turnInto(1, 0, LISTED);
            took(x, "great points, packed", x.change(2, 0, way), 6);
            took(x, "are as they were", x.compare(0, 2, 0), 0);
            took(x, "great points, listed", x.change(2, 1, way), 4);
            took(x, "are as they were", x.compare(1, 2, 1), 0);
        }
    }

    @Says(promise = 25, words = "of its SORT: how many ITEMS.")
    static void anEmptyTextAndItself() {
        for (int way = 0; way < 2; way++) {
            changes(way, of(), of());
        }
        CharRows x = new CharRows();
        lays(x, 0, PACKED, 97);
        x.share(1, 0);
        took(x, "change(0, 0, 0)", x.change(0, 0, 0), 1);
        holds(x, 0, PACKED, 65);
        holds(x, 1, PACKED, 97);
        took(x, "change(2, 0, 0)", x.change(2, 0, 0), 1);
        due("is a new one", x.same(0, 2), 0);
    }

    @Says(promise = 25, words = "CODES 1, 2 (BYTES).")
    static void nothingAndBytesHaveNoCase() {
        CharRows x = new CharRows();
        lays(x, 2, BYTES, 97);
        x.lay(3, BYTES);
        for (int way = 0; way < 2; way++) {
            refused(x, "nothing", x.change(1, 9, way), 1);
            refused(x, "bytes", x.change(1, 2, way), 2);
            refused(x, "empty bytes", x.change(1, 3, way), 2);
            refused(x, "bytes, itself", x.change(2, 2, way), 2);
        }
        holds(x, 2, BYTES, 97);
    }

    @Says(promise = 26, words = "A PACKED TEXT becomes the one that is kept and has the same UNITS")
    static void equalOnesAreOne() {
        CharRows x = new CharRows();
        lays(x, 0, PACKED, 5, 6);
        lays(x, 1, PACKED, 5, 6);
        x.share(2, 0);
        x.share(3, 1);
        took(x, "keep(0)", x.keep(0), 0);
        due("it is kept itself", x.same(0, 2), 1);
        took(x, "keep(1)", x.keep(1), 0);
        due("it is that one", x.same(0, 1), 1);
        due("another one that was the same stays", x.same(1, 3), 0);
        took(x, "keep(1) again", x.keep(1), 0);
        took(x, "keep(3)", x.keep(3), 0);
        due("kept()", x.kept(), 1);
    }

    @Says(promise = 26, words = "it is kept itself, if there is none: its number among those kept.")
    static void theFirstAndTheTwelfthAreKeptThemselves() {
        CharRows x = new CharRows();
        for (int k = 0; k < 12; k++) {
            lays(x, 0, PACKED, k);
            x.share(1, 0);
            took(x, "keep(0)", x.keep(0), k);
            due("it is as it was", x.same(0, 1), 1);
            x.put(1, 0, 100 + k);
            lays(x, 2, PACKED, 100 + k);
            took(x, "one like it", x.keep(2), k);
            due("is that one", x.same(1, 2), 1);
        }
    }

    @Says(promise = 26, words = "has the same UNITS")
    static void thoseThatAreNearlyLikeIt() {
        CharRows x = new CharRows();
        lays(x, 0, PACKED, times(59, 7));
        took(x, "59", x.keep(0), 0);
        lays(x, 0, PACKED, times(60, 7));
        took(x, "one more", x.keep(0), 1);
        lays(x, 0, PACKED, rows(times(59, 7), 8));
        took(x, "the last is another", x.keep(0), 2);
        lays(x, 0, PACKED, rows(of(8), times(59, 7)));
        took(x, "the first is another", x.keep(0), 3);
        lays(x, 0, PACKED, times(60, 7));
        took(x, "alike", x.keep(0), 1);
    }

    @Says(promise = 26, words = "has the same UNITS")
    static void emptyOnesAreKeptAsOne() {
        CharRows x = new CharRows();
        lays(x, 0, PACKED, 7);
        lays(x, 1, PACKED);
        lays(x, 2, PACKED);
        took(x, "keep(0)", x.keep(0), 0);
        took(x, "keep(1)", x.keep(1), 1);
        took(x, "keep(2)", x.keep(2), 1);
        due("same(1, 2)", x.same(1, 2), 1);
    }

    @Says(promise = 26, words = "(as it is now)")
    static void aKeptOneThatHasBeenChanged() {
        CharRows x = new CharRows();
        lays(x, 0, PACKED, 5);
        x.keep(0);
        x.put(0, 0, 6);
        lays(x, 1, PACKED, 6);
        took(x, "like it now", x.keep(1), 0);
        lays(x, 2, PACKED, 5);
        took(x, "as it was", x.keep(2), 1);
        x.put(2, 0, 6);
        took(x, "the first of two alike", x.keep(2), 0);
        due("is that one", x.same(0, 2), 1);
        due("kept()", x.kept(), 2);
    }

    @Says(promise = 26, words = "CODES 1, 2, 6")
    static void nothingAndOtherSortsAreNotKept() {
        CharRows x = new CharRows();
        lays(x, 0, PACKED, 7);
        x.keep(0);
        lays(x, 1, LISTED, 7);
        lays(x, 2, BYTES, 7);
        x.lay(3, LISTED);
        x.lay(4, BYTES);
        refused(x, "nothing", x.keep(9), 1);
        for (int t = 1; t < 5; t++) {
            refused(x, "keep(" + t + ")", x.keep(t), 2);
            due("sort(" + t + ")", x.sort(t), t % 2 == 1 ? LISTED : BYTES);
        }
        due("kept()", x.kept(), 1);
    }

    @Says(promise = 26, words = "6 (12 are kept, none of them like it).")
    static void twelveAreKeptAndNoMore() {
        CharRows x = new CharRows();
        for (int k = 0; k < 12; k++) {
            lays(x, 0, PACKED, 5, k);
            took(x, "keep", x.keep(0), k);
        }
        lays(x, 1, PACKED, 5, 12);
        x.share(2, 1);
        refused(x, "a 13th", x.keep(1), 6);
        due("a 13th stays", x.same(1, 2), 1);
        due("kept()", x.kept(), 12);
        for (int k = 0; k < 12; k++) {
            lays(x, 3, PACKED, 5, k);
            took(x, "one like it", x.keep(3), k);
        }
        due("the last of them", x.same(0, 3), 1);
        x.turnInto(4, 1, LISTED);
        refused(x, "another sort goes ahead", x.keep(4), 2);
        refused(x, "nothing goes ahead", x.keep(9), 1);
    }

    @Says(promise = 27, words = "How many are kept.")
    static void fromNoneToTwelve() {
        CharRows x = new CharRows();
        due("kept()", x.kept(), 0);
        for (int k = 0; k < 12; k++) {
            lays(x, 0, PACKED, k);
            x.keep(0);
            due("kept()", x.kept(), k + 1);
            x.keep(0);
            due("kept() after one like it", x.kept(), k + 1);
        }
        lays(x, 0, PACKED, 12);
        x.keep(0);
        due("kept() after a 13th", x.kept(), 12);
        x.nothing(0);
        due("kept() after nothing(0)", x.kept(), 12);
    }

    @Says(promise = 27, words = "(No CODE.)")
    static void keptLeavesTheCode() {
        CharRows x = new CharRows();
        x.keep(0);
        x.kept();
        due("code()", x.code(), 1);
    }

    @Says(promise = 28, words = "Whether two TEXTS are the same one (both NOTHING, too): 1, 0.")
    static void nothingAndEqualOnesAndItself() {
        CharRows x = new CharRows();
        due("both nothing", x.same(8, 9), 1);
        due("nothing and itself", x.same(9, 9), 1);
        x.lay(0, PACKED);
        x.lay(1, PACKED);
        due("one is nothing", x.same(0, 9), 0);
        due("the other is nothing", x.same(9, 0), 0);
        due("empty ones", x.same(0, 1), 0);
        due("itself", x.same(0, 0), 1);
        x.share(1, 0);
        due("shared", x.same(1, 0), 1);
        x.nothing(0);
        x.nothing(1);
        due("both nothing again", x.same(0, 1), 1);
    }

    @Says(promise = 28, words = "Whether two TEXTS are the same one")
    static void whatIsMadeOfATextIsAnotherOne() {
        CharRows x = new CharRows();
        lays(x, 0, PACKED, 5);
        lays(x, 1, PACKED);
        x.cut(2, 0, 0, 1);
        x.join(3, 0, 1);
        x.back(4, 0);
        x.turnInto(5, 0, PACKED);
        x.change(6, 0, 0);
        for (int t = 2; t < 7; t++) {
            holds(x, t, PACKED, 5);
            due("same(0, " + t + ")", x.same(0, t), 0);
        }
    }

    @Says(promise = 28, words = "(No CODE.)")
    static void sameLeavesTheCode() {
        CharRows x = new CharRows();
        x.length(0);
        x.same(0, 1);
        x.same(0, 0);
        due("code()", x.code(), 1);
    }

    @Says(promise = 29, words = "Of a POINT: 0 a HIGH UNIT")
    static void highUnits() {
        kinds(0, 55296, 55297, 56318, 56319);
    }

    @Says(promise = 29, words = "1 a LOW one")
    static void lowUnits() {
        kinds(1, 56320, 56321, 57342, 57343);
    }

    @Says(promise = 29, words = "2 a figure (48 to 57)")
    static void figures() {
        kinds(2, 48, 49, 56, 57);
        kinds(6, 47, 58);
    }

    @Says(promise = 29, words = "3 a letter that has another CASE by change()")
    static void letters() {
        kinds(3, 65, 90, 97, 122, 192, 214, 216, 222, 224, 246, 248, 254, 255, 376);
        kinds(6, 64, 91, 96, 123, 181, 191, 215, 223, 247, 256, 375, 377);
        for (int p = 0; p < 1000; p++) {
            boolean isLetter = cased(p, 0) != p || cased(p, 1) != p;
            due("whether " + p + " is a letter", new CharRows().kind(p) == 3 ? 1 : 0, isLetter ? 1 : 0);
        }
    }

    @Says(promise = 29, words = "4 a blank (9 to 13, 32, 160)")
    static void blanks() {
        kinds(4, 9, 10, 11, 12, 13, 32, 160);
        kinds(6, 8, 14, 31, 33, 159, 161);
    }

    @Says(promise = 29, words = "5 of a PAIR")
    static void pointsOfAPair() {
        kinds(5, 65536, 65537, 65536 + 48, 65536 + 65, 65536 + HIGH, 1114110, 1114111);
    }

    @Says(promise = 29, words = "6 else: the first of these.")
    static void allElse() {
        kinds(6, 0, 1, 127, 128, 255 + 1, 55294, 55295, 57344, 57345, 65534, 65535);
    }

    @Says(promise = 29, words = "(No CODE.)")
    static void kindLeavesTheCode() {
        CharRows x = new CharRows();
        x.length(0);
        for (int p : of(HIGH, LOW, 48, 65, 32, 65536, 0, -1)) {
            x.kind(p);
            due("code() after kind(" + p + ")", x.code(), 1);
        }
    }

    public static void main(String[] args) {
        runAll(OrderTest.class);
    }
}
