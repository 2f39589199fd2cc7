/** The sentences of 'Terms' that name a boundary. */
public final class TermsTest extends Sentences {
    private static void pairsUp(int first, int second, int points) {
        CharRows x = new CharRows();
        lays(x, 0, PACKED, first, second);
        took(x, "points of " + first + ", " + second, x.points(0), points);
    }

    private static void isTold(int p, int... bytes) {
        CharRows x = new CharRows();
        x.point(p);
        for (int sort = PACKED; sort <= LISTED; sort++) {
            x.lay(0, sort);
            took(x, "tell of " + p, x.tell(1, 0, 0), bytes.length);
            holds(x, 1, BYTES, bytes);
        }
    }

    @Says(promise = 0, words = "POINTS are 0 to 1114111.")
    static void theFirstAndTheLastPoint() {
        CharRows x = new CharRows();
        took(x, "point(0)", x.point(0), 1);
        took(x, "point(1114111)", x.point(1114111), 3);
        due("kind(0)", x.kind(0), 6);
        due("kind(1114111)", x.kind(1114111), 5);
        for (int p : of(-1, 1114112, LEAST, GREATEST)) {
            due("point(" + p + ")", x.point(p), OUT);
            due("kind(" + p + ")", x.kind(p), OUT);
        }
        due("fresh()", x.fresh(), 3);
    }

    @Says(promise = 0, words = "A UNIT is 0 to 65535.")
    static void theFirstAndTheLastUnit() {
        CharRows x = new CharRows();
        took(x, "unit(0)", x.unit(0), 1);
        took(x, "unit(65535)", x.unit(65535), 2);
        for (int u : of(-1, 65536, 1114111, LEAST, GREATEST)) {
            due("unit(" + u + ")", x.unit(u), OUT);
        }
        x.lay(0, PACKED);
        holds(x, 0, PACKED, 0, 65535);
    }

    @Says(promise = 0, words = "HIGH UNITS are 55296 to 56319, LOW ones 56320 to 57343.")
    static void theBoundsOfHighAndLow() {
        int[] bounds = {55295, 55296, 56319, 56320, 57343, 57344};
        for (int first : bounds) {
            for (int second : bounds) {
                boolean isPair = (first == 55296 || first == 56319) && (second == 56320 || second == 57343);
                pairsUp(first, second, isPair ? 1 : 2);
            }
        }
    }

    @Says(promise = 0, words = "A POINT below 65536 is one UNIT, itself;")
    static void thePointsOfOneUnit() {
        for (int p : of(0, 55295, 55296, 56319, 56320, 57343, 57344, 65535)) {
            CharRows x = new CharRows();
            took(x, "point(" + p + ")", x.point(p), 1);
            x.lay(0, PACKED);
            holds(x, 0, PACKED, p);
        }
    }

    @Says(promise = 0, words = "a greater one a PAIR: with v the POINT less 65536, HIGH 55296 + v / 1024, LOW 56320 + v % 1024.")
    static void thePointsOfTwoUnits() {
        int[][] pairs = {
            {65536, 55296, 56320}, {65537, 55296, 56321}, {65536 + 1023, 55296, 57343}, {65536 + 1024, 55297, 56320},
            {1114111 - 1024, 56318, 57343}, {1114111 - 1023, 56319, 56320}, {1114111, 56319, 57343},
        };
        for (int[] pair : pairs) {
            CharRows x = new CharRows();
            took(x, "point(" + pair[0] + ")", x.point(pair[0]), 2);
            x.lay(0, PACKED);
            holds(x, 0, PACKED, pair[1], pair[2]);
            x.lay(1, LISTED);
            holds(x, 1, LISTED, pair[0]);
            took(x, "pointAt", x.pointAt(0, 0), pair[0]);
        }
    }

    @Says(promise = 0, words = "POINTS of UNITS: a HIGH one and a LOW one right behind it are the POINT of that PAIR, each other UNIT itself")
    static void aHighAndALowOneThatAreNoPair() {
        CharRows x = new CharRows();
        drafts(x, LOW, HIGH, 97, LOW, HIGH, HIGH, LOW, LOW, HIGH);
        x.lay(0, PACKED);
        x.lay(1, LISTED);
        holds(x, 1, LISTED, LOW, HIGH, 97, LOW, HIGH, 65536, LOW, HIGH);
        took(x, "points", x.points(0), 8);
        for (int k = 0; k < 8; k++) {
            took(x, "pointAt(0, " + k + ")", x.pointAt(0, k), x.at(1, k));
        }
    }

    @Says(promise = 0, words = "(so a HIGH, a LOW one that is alone is a POINT, too)")
    static void aHalfThatIsAlone() {
        for (int half : of(55296, 56319, 56320, 57343)) {
            CharRows x = new CharRows();
            lays(x, 0, PACKED, half);
            took(x, "points", x.points(0), 1);
            took(x, "pointAt", x.pointAt(0, 0), half);
        }
    }

    @Says(promise = 0, words = "TEXTS 0 to 9 are NOTHING at first")
    static void theFirstAndTheLastText() {
        CharRows x = new CharRows();
        for (int t = 0; t < 10; t++) {
            due("sort(" + t + ")", x.sort(t), NONE);
            refused(x, "length(" + t + ")", x.length(t), 1);
            took(x, "lay(" + t + ", 0)", x.lay(t, PACKED), 0);
            due("sort(" + t + ")", x.sort(t), PACKED);
        }
        due("sort(-1)", x.sort(-1), OUT);
        due("sort(10)", x.sort(10), OUT);
    }

    @Says(promise = 0, words = "or of a SORT: 0 PACKED, a row of UNITS; 1 LISTED, POINTS one behind the other; 2 BYTES (0 to 255).")
    static void theGreatestItemOfEachSort() {
        CharRows x = new CharRows();
        drafts(x, 0, 65535, 56319, 57343);
        x.lay(0, PACKED);
        holds(x, 0, PACKED, 0, 65535, 56319, 57343);
        x.lay(1, LISTED);
        holds(x, 1, LISTED, 0, 65535, 1114111);
        x.lay(2, BYTES);
        holds(x, 2, BYTES, 0, 255, 255, 255);
    }

    @Says(promise = 0, words = "Several may be the same one.")
    static void allTextsAreTheSameOne() {
        CharRows x = new CharRows();
        lays(x, 0, PACKED, 5);
        for (int t = 1; t < 10; t++) {
            x.share(t, t - 1);
        }
        x.put(9, 0, 6);
        for (int t = 0; t < 10; t++) {
            due("same(0, " + t + ")", x.same(0, t), 1);
            due("at(" + t + ", 0)", x.at(t, 0), 6);
        }
    }

    @Says(promise = 0, words = "ITEMS are UNITS, POINTS, BYTES by the SORT, from 0 on, 60 at most")
    static void sixtyItemsAreTheMost() {
        for (int sort = PACKED; sort <= LISTED; sort++) {
            CharRows x = new CharRows();
            lays(x, 0, sort, times(60, 7));
            lays(x, 1, sort, 8);
            lays(x, 2, sort);
            took(x, "60 and none", x.join(3, 0, 2), 60);
            took(x, "at(3, 0)", x.at(3, 0), 7);
            took(x, "at(3, 59)", x.at(3, 59), 7);
            refused(x, "60 and one", x.join(3, 0, 1), 6);
            refused(x, "one and 60", x.join(3, 1, 0), 6);
            refused(x, "60 and 60", x.join(3, 0, 0), 6);
        }
    }

    @Says(promise = 0, words = "(of BYTES 240)")
    static void twoHundredAndFortyBytesAreTheMost() {
        CharRows x = new CharRows();
        laysBytes(x, 0, rows(times(239, 7), 9));
        lays(x, 1, BYTES, 8);
        lays(x, 2, BYTES);
        took(x, "240 and none", x.join(3, 0, 2), 240);
        took(x, "at(3, 239)", x.at(3, 239), 9);
        refused(x, "240 and one", x.join(3, 0, 1), 6);
        refused(x, "one and 240", x.join(3, 1, 0), 6);
        refused(x, "240 and 240", x.join(3, 0, 0), 6);
        due("length(3)", x.length(3), 240);
    }

    @Says(promise = 0, words = "THE DRAFT is a row of UNITS, 60 at most.")
    static void sixtyUnitsAreTheMostOfTheDraft() {
        CharRows x = new CharRows();
        for (int k = 1; k <= 60; k++) {
            took(x, "unit", x.unit(k), k);
        }
        refused(x, "a 61st", x.unit(61), 6);
        x.lay(0, PACKED);
        for (int k = 0; k < 60; k++) {
            took(x, "at(0, " + k + ")", x.at(0, k), k + 1);
        }
        refused(x, "at(0, 60)", x.at(0, 60), 3);
    }

    @Says(promise = 0, words = "FORMS: 0 a POINT below 128 is that byte;")
    static void pointsOfOneByte() {
        isTold(0, 0);
        isTold(127, 127);
    }

    @Says(promise = 0, words = "below 2048 two: 192 + p / 64, 128 + p % 64;")
    static void pointsOfTwoBytes() {
        isTold(128, 194, 128);
        isTold(191, 194, 191);
        isTold(192, 195, 128);
        isTold(2047, 223, 191);
    }

    @Says(promise = 0, words = "below 65536 three: 224 + p / 4096, then p / 64 % 64 and p % 64, each and 128;")
    static void pointsOfThreeBytes() {
        isTold(2048, 224, 160, 128);
        isTold(4095, 224, 191, 191);
        isTold(4096, 225, 128, 128);
        isTold(4096 + 63, 225, 128, 191);
        isTold(4096 + 64, 225, 129, 128);
        isTold(55295, 237, 159, 191);
        isTold(57344, 238, 128, 128);
        isTold(65535, 239, 191, 191);
    }

    @Says(promise = 0, words = "else four: 240 + p / 262144, then three likewise.")
    static void pointsOfFourBytes() {
        isTold(65536, 240, 144, 128, 128);
        isTold(65536 + 63, 240, 144, 128, 191);
        isTold(65536 + 64, 240, 144, 129, 128);
        isTold(65536 + 4095, 240, 144, 191, 191);
        isTold(65536 + 4096, 240, 145, 128, 128);
        isTold(262143, 240, 191, 191, 191);
        isTold(262144, 241, 128, 128, 128);
        isTold(1048576, 244, 128, 128, 128);
        isTold(1114111, 244, 143, 191, 191);
    }

    @Says(promise = 0, words = "1 each UNIT two bytes, the higher one first; 2 the lower one first.")
    static void unitsOfTwoBytes() {
        CharRows x = new CharRows();
        drafts(x, 0, 255, 256, 65280, 65535, 56319, 57343);
        for (int sort = PACKED; sort <= LISTED; sort++) {
            x.lay(0, sort);
            took(x, "tell(1, 0, 1)", x.tell(1, 0, 1), 14);
            holds(x, 1, BYTES, 0, 0, 0, 255, 1, 0, 255, 0, 255, 255, 219, 255, 223, 255);
            took(x, "tell(1, 0, 2)", x.tell(1, 0, 2), 14);
            holds(x, 1, BYTES, 0, 0, 255, 0, 0, 1, 0, 255, 255, 255, 255, 219, 255, 223);
        }
    }

    @Says(promise = 0, words = "3 each POINT one byte.")
    static void pointsThatAreOneByte() {
        CharRows x = new CharRows();
        drafts(x, 0, 127, 128, 255);
        for (int sort = PACKED; sort <= LISTED; sort++) {
            x.lay(0, sort);
            took(x, "tell(1, 0, 3)", x.tell(1, 0, 3), 4);
            holds(x, 1, BYTES, 0, 127, 128, 255);
        }
    }

    @Says(promise = 0, words = "An object is used for at most 512 calls after it has been made")
    static void the512thCallIsAnswered() {
        CharRows x = new CharRows();
        laysBytes(x, 0, times(240, 7));
        lays(x, 1, BYTES);
        // Both texts above took 262 calls, the look at the end is the last one.
        for (int calls = 262; calls < 511; calls++) {
            due("join(2, 0, 1)", x.join(2, 0, 1), 240);
        }
        due("at(2, 239)", x.at(2, 239), 7);
    }

    public static void main(String[] args) {
        runAll(TermsTest.class);
    }
}
