import java.util.Arrays;

/** The sentences of promises 17 and 18 that name a boundary: bytes told and read. */
public final class BytesTest extends Sentences {
    private static void tells(int form, int... units) {
        CharRows x = new CharRows();
        lays(x, 0, PACKED, units);
        x.tell(1, 0, form);
        due("code() after tell of " + Arrays.toString(units) + ", form " + form, x.code(), 0);
        took(x, "read", x.read(2, 1, form), units.length);
        holds(x, 2, PACKED, units);
    }

    private static void tellsNot(int form, int place, int... units) {
        CharRows x = new CharRows();
        lays(x, 0, PACKED, units);
        x.turnInto(1, 0, LISTED);
        for (int t = 0; t < 2; t++) {
            brokenAt(x, "tell of " + Arrays.toString(units) + ", sort " + t, x.tell(9, t, form), place);
        }
        due("sort(9)", x.sort(9), NONE);
    }

    private static void reads(int[] units, int form, int... bytes) {
        CharRows x = new CharRows();
        laysBytes(x, 0, bytes);
        took(x, "read of " + Arrays.toString(bytes) + ", form " + form, x.read(1, 0, form), units.length);
        holds(x, 1, PACKED, units);
    }

    private static void readsPoint(int p, int... bytes) {
        CharRows x = new CharRows();
        lays(x, 0, BYTES, bytes);
        took(x, "read of " + Arrays.toString(bytes), x.read(1, 0, 0), p < 65536 ? 1 : 2);
        took(x, "points of " + Arrays.toString(bytes), x.points(1), 1);
        took(x, "the point of " + Arrays.toString(bytes), x.pointAt(1, 0), p);
    }

    private static void readsNot(int form, int place, int... bytes) {
        CharRows x = new CharRows();
        laysBytes(x, 0, bytes);
        brokenAt(x, "read of " + Arrays.toString(bytes) + ", form " + form, x.read(1, 0, form), place);
        due("sort(1)", x.sort(1), NONE);
    }

    /** Broken where it stands alone, and where a whole point stands ahead of it. */
    private static void isBroken(int... bytes) {
        readsNot(0, 0, bytes);
        readsNot(0, 2, rows(of(194, 128), bytes));
    }

    private static void readsTooMany(int form, int... bytes) {
        CharRows x = new CharRows();
        laysBytes(x, 0, bytes);
        lays(x, 2, BYTES, 97, 97, 255);
        brokenAt(x, "read", x.read(1, 2, 0), 2);
        refused(x, "read of " + Arrays.toString(bytes) + ", form " + form, x.read(1, 0, form), 6);
        due("place()", x.place(), 2);
        due("sort(1)", x.sort(1), NONE);
    }

    private static int[] greatBytes(int n) {
        int[] bytes = {};
        for (int k = 0; k < n; k++) {
            bytes = rows(bytes, 240, 144, 128, 128);
        }
        return bytes;
    }

    private static int[] pairs(int n) {
        int[] units = {};
        for (int k = 0; k < n; k++) {
            units = rows(units, HIGH, LOW);
        }
        return units;
    }

    @Says(promise = 17, words = "A TEXT is the BYTES of another one in a FORM: how many.")
    static void anEmptyTextIsNoBytes() {
        CharRows x = new CharRows();
        for (int sort = PACKED; sort <= LISTED; sort++) {
            x.lay(0, sort);
            for (int form = 0; form < 4; form++) {
                took(x, "tell(1, 0, " + form + ")", x.tell(1, 0, form), 0);
                holds(x, 1, BYTES);
            }
        }
    }

    @Says(promise = 17, words = "A TEXT is the BYTES of another one in a FORM: how many.")
    static void theMostBytes() {
        for (int form = 0; form < 3; form++) {
            CharRows x = new CharRows();
            laysGreat(x, 0, 60);
            took(x, "tell(1, 0, " + form + ")", x.tell(1, 0, form), 240);
            due("at(1, 239)", x.at(1, 239), of(128, 0, 220)[form]);
            took(x, "length(1)", x.length(1), 240);
        }
    }

    @Says(promise = 17, words = "A TEXT is the BYTES of another one in a FORM: how many.")
    static void aTextIsTheBytesOfItself() {
        CharRows x = new CharRows();
        lays(x, 0, PACKED, 97, 233);
        x.share(1, 0);
        took(x, "tell(0, 0, 0)", x.tell(0, 0, 0), 3);
        holds(x, 0, BYTES, 97, 195, 169);
        holds(x, 1, PACKED, 97, 233);
    }

    @Says(promise = 17, words = "CODES 1, 2 (BYTES);")
    static void nothingAndBytesAreNotTold() {
        CharRows x = new CharRows();
        x.lay(2, BYTES);
        lays(x, 3, BYTES, 97);
        for (int form = 0; form < 4; form++) {
            refused(x, "nothing, form " + form, x.tell(1, 0, form), 1);
            refused(x, "empty bytes, form " + form, x.tell(1, 2, form), 2);
            refused(x, "bytes, form " + form, x.tell(1, 3, form), 2);
        }
    }

    @Says(promise = 17, words = "5: a HIGH, LOW UNIT that is a POINT of its own (FORM 0)")
    static void halvesThatAreAlone() {
        for (int half : of(55296, 56319, 56320, 57343)) {
            tellsNot(0, 0, half);
            tellsNot(0, 1, 97, half);
            tellsNot(0, 1, 97, half, 97);
        }
        tellsNot(0, 0, LOW, HIGH);
        tells(0, 55295);
        tells(0, 57344);
        tells(0, 55296, 56320);
        tells(0, 56319, 57343);
    }

    @Says(promise = 17, words = "5: a HIGH, LOW UNIT that is a POINT of its own (FORM 0)")
    static void listedHalvesSideBySide() {
        CharRows x = new CharRows();
        lays(x, 0, LISTED, 97, HIGH);
        lays(x, 1, LISTED, LOW);
        x.join(0, 0, 1);
        brokenAt(x, "tell(9, 0, 0)", x.tell(9, 0, 0), 1);
        took(x, "tell(9, 0, 1)", x.tell(9, 0, 1), 6);
        holds(x, 9, BYTES, 0, 97, 216, 0, 220, 0);
    }

    @Says(promise = 17, words = "5: a HIGH, LOW UNIT that is a POINT of its own (FORM 0)")
    static void halvesAreToldInFormsOneAndTwo() {
        CharRows x = new CharRows();
        lays(x, 0, PACKED, LOW, HIGH);
        took(x, "form 1", x.tell(1, 0, 1), 4);
        holds(x, 1, BYTES, 220, 0, 216, 0);
        took(x, "form 2", x.tell(1, 0, 2), 4);
        holds(x, 1, BYTES, 0, 220, 0, 216);
    }

    @Says(promise = 17, words = "a POINT above 255 (FORM 3)")
    static void pointsAbove255() {
        tells(3, 0, 255);
        tellsNot(3, 0, 256);
        tellsNot(3, 2, 0, 255, 256);
        tellsNot(3, 1, 255, 65535);
        tellsNot(3, 1, 255, HIGH);
        tellsNot(3, 1, 255, HIGH, LOW);
        tells(0, 256, 65535);
    }

    @Says(promise = 17, words = "the first one, its place being the number of that POINT.")
    static void pairsAheadOfItCountOnce() {
        tellsNot(0, 2, HIGH, LOW, HIGH, LOW, LOW, HIGH);
        tellsNot(0, 1, HIGH, LOW, HIGH);
        tellsNot(0, 0, HIGH, HIGH, LOW);
        tellsNot(3, 1, 97, HIGH, LOW, 300);
        tellsNot(0, 59, rows(times(59, 97), LOW));
        tellsNot(3, 59, rows(times(59, 255), 256));
        tellsNot(0, 29, rows(pairs(29), LOW, HIGH));
    }

    @Says(promise = 18, words = "A TEXT is the PACKED one that BYTES tell in a FORM: how many UNITS.")
    static void noBytesAreAnEmptyText() {
        for (int form = 0; form < 4; form++) {
            reads(of(), form);
        }
    }

    @Says(promise = 18, words = "A TEXT is the PACKED one that BYTES tell in a FORM: how many UNITS.")
    static void aTextIsReadIntoItself() {
        CharRows x = new CharRows();
        lays(x, 0, BYTES, 240, 144, 128, 128);
        x.share(1, 0);
        took(x, "read(0, 0, 0)", x.read(0, 0, 0), 2);
        holds(x, 0, PACKED, HIGH, LOW);
        holds(x, 1, BYTES, 240, 144, 128, 128);
    }

    @Says(promise = 18, words = "CODES 1, 2 (no BYTES);")
    static void nothingAndOtherSortsAreNotRead() {
        CharRows x = new CharRows();
        x.lay(0, PACKED);
        x.lay(1, LISTED);
        for (int form = 0; form < 4; form++) {
            refused(x, "nothing, form " + form, x.read(9, 3, form), 1);
            refused(x, "packed, form " + form, x.read(9, 0, form), 2);
            refused(x, "listed, form " + form, x.read(9, 1, form), 2);
        }
    }

    @Says(promise = 18, words = "5: of FORM 0 the first byte of the first POINT that can't be told so")
    static void theFirstByteOfTheFirstOne() {
        readsNot(0, 2, 97, 97, 225, 128, 97);
        readsNot(0, 1, 97, 241, 128, 128, 97, 255);
        readsNot(0, 1, 97, 255, 255);
        readsNot(0, 3, 225, 128, 128, 194, 97);
        readsNot(0, 4, 240, 144, 128, 128, 128);
        readsNot(0, 59, rows(times(59, 97), 255));
    }

    @Says(promise = 18, words = "128 to 193")
    static void firstBytesFrom128To193() {
        for (int first = 128; first <= 193; first++) {
            isBroken(first);
            isBroken(first, 128);
        }
        readsPoint(127, 127);
        readsPoint(128, 194, 128);
    }

    @Says(promise = 18, words = "above 244")
    static void firstBytesAbove244() {
        for (int first = 245; first <= 255; first++) {
            isBroken(first);
            isBroken(first, 128, 128, 128);
            isBroken(first, 128, 128, 128, 128);
        }
        readsPoint(1048576, 244, 128, 128, 128);
    }

    @Says(promise = 18, words = "a byte lacks")
    static void aByteLacks() {
        isBroken(194);
        isBroken(223);
        isBroken(224);
        isBroken(224, 160);
        isBroken(239);
        isBroken(239, 191);
        isBroken(240);
        isBroken(240, 144);
        isBroken(240, 144, 128);
        isBroken(244);
        isBroken(244, 143);
        isBroken(244, 143, 191);
    }

    @Says(promise = 18, words = "or is not 128 to 191")
    static void aByteBehindTheFirstIsAnotherOne() {
        for (int wrong : of(0, 127, 192, 194, 255)) {
            isBroken(195, wrong);
            isBroken(225, wrong, 128);
            isBroken(225, 128, wrong);
            isBroken(241, wrong, 128, 128);
            isBroken(241, 128, wrong, 128);
            isBroken(241, 128, 128, wrong);
        }
        readsPoint(192, 195, 128);
        readsPoint(255, 195, 191);
        readsPoint(4096, 225, 128, 128);
        readsPoint(8191, 225, 191, 191);
        readsPoint(262144, 241, 128, 128, 128);
        readsPoint(524287, 241, 191, 191, 191);
    }

    @Says(promise = 18, words = "three that tell less than 2048")
    static void threeThatTellLess() {
        isBroken(224, 128, 128);
        isBroken(224, 159, 128);
        isBroken(224, 159, 191);
        readsPoint(2048, 224, 160, 128);
        readsPoint(2047, 223, 191);
    }

    @Says(promise = 18, words = "or 55296 to 57343")
    static void threeThatTellHalves() {
        isBroken(237, 160, 128);
        isBroken(237, 175, 191);
        isBroken(237, 176, 128);
        isBroken(237, 191, 191);
        isBroken(237, 160, 128, 237, 176, 128);
        readsPoint(55295, 237, 159, 191);
        readsPoint(57344, 238, 128, 128);
        readsPoint(65535, 239, 191, 191);
    }

    @Says(promise = 18, words = "four that tell less than 65536")
    static void fourThatTellLess() {
        isBroken(240, 128, 128, 128);
        isBroken(240, 143, 128, 128);
        isBroken(240, 143, 191, 191);
        isBroken(240, 141, 160, 128);
        readsPoint(65536, 240, 144, 128, 128);
        readsPoint(65535, 239, 191, 191);
    }

    @Says(promise = 18, words = "or above 1114111")
    static void fourThatTellMore() {
        isBroken(244, 144, 128, 128);
        isBroken(244, 191, 191, 191);
        readsPoint(1114111, 244, 143, 191, 191);
    }

    @Says(promise = 18, words = "of FORMS 1, 2 the last byte, if their number is odd")
    static void anOddNumberOfBytes() {
        for (int form = 1; form <= 2; form++) {
            readsNot(form, 0, 97);
            readsNot(form, 2, 0, 97, 0);
            readsNot(form, 118, times(119, 97));
            readsNot(form, 120, times(121, 97));
            reads(times(60, 97 * 257), form, times(120, 97));
        }
        reads(of(97, 97, 97), 3, 97, 97, 97);
    }

    @Says(promise = 18, words = "(UNITS that are alone are as they are)")
    static void unitsThatAreAlone() {
        reads(of(LOW, HIGH, 57343, 56319), 1, 220, 0, 216, 0, 223, 255, 219, 255);
        reads(of(LOW, HIGH, 57343, 56319), 2, 0, 220, 0, 216, 255, 223, 255, 219);
    }

    @Says(promise = 18, words = "A TEXT is the PACKED one that BYTES tell in a FORM")
    static void theLeastAndTheGreatestUnits() {
        reads(of(0, 255, 65280, 65535), 1, 0, 0, 0, 255, 255, 0, 255, 255);
        reads(of(0, 65280, 255, 65535), 2, 0, 0, 0, 255, 255, 0, 255, 255);
        reads(of(0, 127, 128, 255), 3, 0, 127, 128, 255);
        reads(of(0, 127, 128, 2047, 2048, 56319, 57343), 0,
            0, 127, 194, 128, 223, 191, 224, 160, 128, 244, 143, 191, 191);
    }

    @Says(promise = 18, words = "6, as it comes to that")
    static void sixtyUnitsAreReadAndNoMore() {
        reads(times(60, 97), 0, times(60, 97));
        reads(times(60, 97), 3, times(60, 97));
        reads(times(60, 0), 1, times(120, 0));
        reads(times(60, 0), 2, times(120, 0));
        readsTooMany(0, times(61, 97));
        readsTooMany(3, times(61, 97));
        readsTooMany(1, times(122, 0));
        readsTooMany(2, times(122, 0));
        for (int form = 0; form < 4; form++) {
            readsTooMany(form, times(240, 97));
        }
    }

    @Says(promise = 18, words = "6, as it comes to that")
    static void aPairIsTwoUnits() {
        reads(pairs(30), 0, greatBytes(30));
        reads(rows(of(97, 98), pairs(29)), 0, rows(of(97, 98), greatBytes(29)));
        readsTooMany(0, rows(greatBytes(30), 97));
        readsTooMany(0, rows(of(97), greatBytes(30)));
        readsTooMany(0, greatBytes(60));
    }

    @Says(promise = 18, words = "6, as it comes to that (5 ahead of it).")
    static void whatIsBrokenBehindTheOneTooManyIsNotComeTo() {
        readsTooMany(0, rows(times(61, 97), 255));
        readsTooMany(0, rows(times(60, 97), 194, 128, 194));
        readsTooMany(0, rows(times(59, 97), 240, 144, 128, 128, 255));
        readsTooMany(0, rows(greatBytes(30), 97, 128));
        readsTooMany(0, rows(times(239, 97), 255));
        readsTooMany(1, times(123, 97));
        readsTooMany(2, times(239, 97));
    }

    @Says(promise = 18, words = "(5 ahead of it)")
    static void whatIsBrokenAheadOfTheOneTooManyOrIsThatOne() {
        readsNot(0, 60, rows(times(60, 97), 255));
        readsNot(0, 60, rows(times(60, 97), 194));
        readsNot(0, 60, rows(rows(times(60, 97), 240, 144, 128), times(100, 97)));
        readsNot(0, 59, rows(rows(times(59, 97), 240, 143, 128, 128), times(100, 97)));
        readsNot(0, 120, rows(greatBytes(30), 224, 159, 191));
        readsNot(0, 0, rows(of(255), times(200, 97)));
        readsNot(1, 120, times(121, 97));
        readsNot(2, 120, times(121, 97));
    }

    public static void main(String[] args) {
        runAll(BytesTest.class);
    }
}
