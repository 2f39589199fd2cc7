/** The sentences of promises 8 to 16 that name a boundary: texts, and their items. */
public final class TextTest extends Sentences {
    private static final int[] NO_ITEMS_OF_TWO = {-1, 2, 3, 60, LEAST, GREATEST};

    /** Texts 0, 1, 2 are the empty ones of their sorts. */
    private static CharRows empties() {
        CharRows x = new CharRows();
        for (int sort = PACKED; sort <= BYTES; sort++) {
            x.lay(sort, sort);
        }
        return x;
    }

    @Says(promise = 8, words = "A TEXT is the same one as another one")
    static void aSharedTextIsTheSameOne() {
        CharRows x = empties();
        for (int sort = PACKED; sort <= BYTES; sort++) {
            due("share(9, " + sort + ")", x.share(9, sort), sort);
            due("same(9, " + sort + ")", x.same(9, sort), 1);
        }
        lays(x, 0, PACKED, 5);
        x.share(1, 0);
        x.put(1, 0, 6);
        due("at(0, 0)", x.at(0, 0), 6);
        lays(x, 1, PACKED, 7);
        due("at(0, 0) after another lay", x.at(0, 0), 6);
    }

    @Says(promise = 8, words = "(NOTHING, too): its SORT; NONE.")
    static void nothingIsShared() {
        CharRows x = empties();
        due("share(0, 9)", x.share(0, 9), NONE);
        due("sort(0)", x.sort(0), NONE);
        due("same(0, 9)", x.same(0, 9), 1);
        due("share(8, 9)", x.share(8, 9), NONE);
    }

    @Says(promise = 8, words = "A TEXT is the same one as another one (NOTHING, too): its SORT; NONE.")
    static void aTextIsSharedWithItself() {
        CharRows x = empties();
        due("share(1, 1)", x.share(1, 1), LISTED);
        due("sort(1)", x.sort(1), LISTED);
        due("share(9, 9)", x.share(9, 9), NONE);
        due("sort(9)", x.sort(9), NONE);
    }

    @Says(promise = 8, words = "(No CODE.)")
    static void shareLeavesTheCode() {
        CharRows x = empties();
        x.length(9);
        x.share(3, 0);
        x.share(4, 9);
        due("code()", x.code(), 1);
    }

    @Says(promise = 9, words = "A TEXT is NOTHING: the SORT that it had; NONE.")
    static void theSortThatItHad() {
        CharRows x = empties();
        for (int sort = PACKED; sort <= BYTES; sort++) {
            due("nothing(" + sort + ")", x.nothing(sort), sort);
            due("sort(" + sort + ")", x.sort(sort), NONE);
            due("nothing(" + sort + ") again", x.nothing(sort), NONE);
        }
    }

    @Says(promise = 9, words = "A TEXT is NOTHING")
    static void theOthersThatAreTheSameOneStay() {
        CharRows x = new CharRows();
        lays(x, 0, PACKED, 5);
        x.share(1, 0);
        x.keep(0);
        due("nothing(0)", x.nothing(0), PACKED);
        holds(x, 1, PACKED, 5);
        due("nothing(1)", x.nothing(1), PACKED);
        lays(x, 2, PACKED, 5);
        due("it is kept still", x.keep(2), 0);
        due("kept()", x.kept(), 1);
    }

    @Says(promise = 9, words = "(No CODE.)")
    static void nothingLeavesTheCode() {
        CharRows x = empties();
        x.at(0, 0);
        x.nothing(0);
        x.nothing(0);
        due("code()", x.code(), 3);
    }

    @Says(promise = 10, words = "The SORT of a TEXT; NONE.")
    static void theSortOfEachAndOfNothing() {
        CharRows x = empties();
        for (int sort = PACKED; sort <= BYTES; sort++) {
            due("sort(" + sort + ")", x.sort(sort), sort);
        }
        due("sort(9)", x.sort(9), NONE);
    }

    @Says(promise = 10, words = "(No CODE.)")
    static void sortLeavesTheCode() {
        CharRows x = empties();
        x.at(0, 0);
        x.sort(0);
        x.sort(9);
        due("code()", x.code(), 3);
    }

    @Says(promise = 11, words = "How many ITEMS a TEXT has.")
    static void anEmptyTextHasNone() {
        CharRows x = empties();
        for (int sort = PACKED; sort <= BYTES; sort++) {
            took(x, "length(" + sort + ")", x.length(sort), 0);
        }
    }

    @Says(promise = 11, words = "How many ITEMS a TEXT has.")
    static void aFullTextHasTheMost() {
        CharRows x = new CharRows();
        laysGreat(x, 1, 60);
        took(x, "listed", x.length(1), 60);
        lays(x, 0, PACKED, times(60, 7));
        took(x, "packed", x.length(0), 60);
        laysBytes(x, 2, times(240, 7));
        took(x, "bytes", x.length(2), 240);
    }

    @Says(promise = 11, words = "CODE 1.")
    static void nothingHasNoLength() {
        CharRows x = new CharRows();
        refused(x, "length(0)", x.length(0), 1);
        x.lay(0, PACKED);
        x.nothing(0);
        refused(x, "length(0) after nothing(0)", x.length(0), 1);
    }

    @Says(promise = 12, words = "How many POINTS a PACKED, LISTED TEXT has.")
    static void anEmptyTextHasNoPoints() {
        CharRows x = empties();
        took(x, "packed", x.points(PACKED), 0);
        took(x, "listed", x.points(LISTED), 0);
    }

    @Says(promise = 12, words = "How many POINTS a PACKED, LISTED TEXT has.")
    static void pairsAreOnePointAndListedHalvesAreTwo() {
        CharRows x = new CharRows();
        laysGreat(x, 0, 30);
        took(x, "30 listed", x.points(0), 30);
        x.turnInto(1, 0, PACKED);
        took(x, "30 pairs", x.points(1), 30);
        lays(x, 2, LISTED, HIGH);
        lays(x, 3, LISTED, LOW);
        x.join(2, 2, 3);
        took(x, "listed halves", x.points(2), 2);
        lays(x, 4, PACKED, times(60, HIGH));
        took(x, "60 halves", x.points(4), 60);
    }

    @Says(promise = 12, words = "CODES 1, 2.")
    static void nothingAndBytesHaveNoPoints() {
        CharRows x = empties();
        refused(x, "points(9)", x.points(9), 1);
        refused(x, "points of empty bytes", x.points(BYTES), 2);
    }

    @Says(promise = 13, words = "ITEM k of a TEXT.")
    static void theFirstAndTheLastItem() {
        CharRows x = new CharRows();
        laysBytes(x, 2, rows(rows(of(1), times(238, 7)), 255));
        took(x, "at(2, 0)", x.at(2, 0), 1);
        took(x, "at(2, 239)", x.at(2, 239), 255);
        refused(x, "at(2, 240)", x.at(2, 240), 3);
        lays(x, 0, PACKED, HIGH, LOW);
        took(x, "at(0, 0)", x.at(0, 0), HIGH);
        took(x, "at(0, 1)", x.at(0, 1), LOW);
        x.turnInto(1, 0, LISTED);
        took(x, "at(1, 0)", x.at(1, 0), 65536);
        refused(x, "at(1, 1)", x.at(1, 1), 3);
    }

    @Says(promise = 13, words = "CODES 1, 3.")
    static void noSuchItem() {
        CharRows x = empties();
        for (int sort = PACKED; sort <= BYTES; sort++) {
            refused(x, "at(" + sort + ", 0) of none", x.at(sort, 0), 3);
            lays(x, sort, sort, 97, 98);
            for (int k : NO_ITEMS_OF_TWO) {
                refused(x, "at(" + sort + ", " + k + ")", x.at(sort, k), 3);
            }
        }
    }

    @Says(promise = 13, words = "CODES 1, 3.")
    static void nothingGoesAheadOfNoSuchItem() {
        CharRows x = new CharRows();
        refused(x, "at(0, 0)", x.at(0, 0), 1);
        refused(x, "at(0, -1)", x.at(0, -1), 1);
    }

    @Says(promise = 14, words = "POINT k of a PACKED, LISTED TEXT.")
    static void theFirstAndTheLastPoint() {
        CharRows x = new CharRows();
        lays(x, 0, PACKED, 56319, 57343, HIGH);
        x.turnInto(1, 0, LISTED);
        for (int t = 0; t < 2; t++) {
            took(x, "pointAt(" + t + ", 0)", x.pointAt(t, 0), 1114111);
            took(x, "pointAt(" + t + ", 1)", x.pointAt(t, 1), HIGH);
        }
        laysGreat(x, 2, 60);
        took(x, "pointAt(2, 59)", x.pointAt(2, 59), 65536);
        refused(x, "pointAt(2, 60)", x.pointAt(2, 60), 3);
    }

    @Says(promise = 14, words = "POINT k of a PACKED, LISTED TEXT.")
    static void textsThatAreAskedByTurns() {
        CharRows x = new CharRows();
        lays(x, 0, PACKED, 97, 98);
        lays(x, 1, PACKED, HIGH, LOW);
        lays(x, 2, LISTED);
        took(x, "pointAt(0, 1)", x.pointAt(0, 1), 98);
        took(x, "pointAt(1, 0)", x.pointAt(1, 0), 65536);
        refused(x, "pointAt(1, 1)", x.pointAt(1, 1), 3);
        took(x, "pointAt(0, 0)", x.pointAt(0, 0), 97);
        refused(x, "pointAt(2, 0)", x.pointAt(2, 0), 3);
        took(x, "points(1)", x.points(1), 1);
        took(x, "points(0)", x.points(0), 2);
        took(x, "points(2)", x.points(2), 0);
    }

    @Says(promise = 14, words = "CODES 1, 2, 3.")
    static void noSuchPoint() {
        CharRows x = empties();
        refused(x, "pointAt(0, 0) of none", x.pointAt(0, 0), 3);
        refused(x, "pointAt(1, 0) of none", x.pointAt(1, 0), 3);
        lays(x, 0, PACKED, HIGH, LOW, 97);
        x.turnInto(1, 0, LISTED);
        for (int t = 0; t < 2; t++) {
            for (int k : NO_ITEMS_OF_TWO) {
                refused(x, "pointAt(" + t + ", " + k + ")", x.pointAt(t, k), 3);
            }
        }
    }

    @Says(promise = 14, words = "CODES 1, 2, 3.")
    static void nothingAndBytesGoAheadOfNoSuchPoint() {
        CharRows x = empties();
        refused(x, "pointAt(9, 0)", x.pointAt(9, 0), 1);
        refused(x, "pointAt(9, -1)", x.pointAt(9, -1), 1);
        refused(x, "pointAt(2, -1)", x.pointAt(BYTES, -1), 2);
        lays(x, 2, BYTES, 97);
        refused(x, "pointAt(2, 0)", x.pointAt(BYTES, 0), 2);
    }

    @Says(promise = 15, words = "ITEM k of a PACKED TEXT, of BYTES becomes v (the lowest 16, 8 bits): what it was.")
    static void theLowestSixteenBits() {
        int[][] wants = {
            {0, 0}, {65535, 65535}, {65536, 0}, {65537, 1}, {-1, 65535}, {-65536, 0}, {LEAST, 0}, {GREATEST, 65535},
        };
        CharRows x = new CharRows();
        lays(x, 0, PACKED, 5, 6);
        int had = 6;
        for (int[] want : wants) {
            took(x, "put(0, 1, " + want[0] + ")", x.put(0, 1, want[0]), had);
            had = want[1];
            holds(x, 0, PACKED, 5, had);
        }
    }

    @Says(promise = 15, words = "(the lowest 16, 8 bits): what it was.")
    static void theLowestEightBits() {
        int[][] wants = {
            {0, 0}, {255, 255}, {256, 0}, {257, 1}, {65535, 255}, {-1, 255}, {-256, 0}, {LEAST, 0}, {GREATEST, 255},
        };
        CharRows x = new CharRows();
        lays(x, 0, BYTES, 5, 6);
        int had = 5;
        for (int[] want : wants) {
            took(x, "put(0, 0, " + want[0] + ")", x.put(0, 0, want[0]), had);
            had = want[1];
            holds(x, 0, BYTES, had, 6);
        }
    }

    @Says(promise = 15, words = "ITEM k of a PACKED TEXT, of BYTES becomes v")
    static void halvesThatArePutAreAPair() {
        CharRows x = new CharRows();
        lays(x, 0, PACKED, HIGH, 97);
        took(x, "put(0, 1, 56320)", x.put(0, 1, LOW), 97);
        took(x, "points(0)", x.points(0), 1);
        took(x, "put(0, 0, 97)", x.put(0, 0, 97), HIGH);
        took(x, "points(0)", x.points(0), 2);
    }

    @Says(promise = 15, words = "CODES 1, 2 (LISTED), 3.")
    static void noSuchItemIsPut() {
        CharRows x = empties();
        for (int sort = PACKED; sort <= BYTES; sort += 2) {
            refused(x, "put(" + sort + ", 0, 1) of none", x.put(sort, 0, 1), 3);
            lays(x, sort, sort, 97, 98);
            for (int k : NO_ITEMS_OF_TWO) {
                refused(x, "put(" + sort + ", " + k + ", 1)", x.put(sort, k, 1), 3);
            }
            holds(x, sort, sort, 97, 98);
        }
    }

    @Says(promise = 15, words = "CODES 1, 2 (LISTED), 3.")
    static void nothingAndListedGoAheadOfNoSuchItem() {
        CharRows x = empties();
        refused(x, "put(9, -1, 1)", x.put(9, -1, 1), 1);
        refused(x, "put(1, -1, 1)", x.put(LISTED, -1, 1), 2);
        lays(x, 1, LISTED, 97);
        refused(x, "put(1, 0, 1)", x.put(LISTED, 0, 1), 2);
        holds(x, 1, LISTED, 97);
    }

    @Says(promise = 15, words = "(A kept one is changed wherever it is.)")
    static void aKeptOneIsChangedWhereverItIs() {
        CharRows x = new CharRows();
        lays(x, 0, PACKED, 5, 6);
        lays(x, 1, PACKED, 5, 6);
        x.keep(0);
        x.keep(1);
        took(x, "put(1, 0, 7)", x.put(1, 0, 7), 5);
        holds(x, 0, PACKED, 7, 6);
        x.nothing(0);
        x.nothing(1);
        lays(x, 2, PACKED, 7, 6);
        took(x, "keep as it is now", x.keep(2), 0);
        lays(x, 3, PACKED, 5, 6);
        took(x, "keep as it was", x.keep(3), 1);
    }

    @Says(promise = 16, words = "A TEXT is another one, PACKED, or LISTED (way 0, 1): how many ITEMS.")
    static void anEmptyTextIsTurned() {
        CharRows x = empties();
        for (int from = PACKED; from <= LISTED; from++) {
            for (int way = PACKED; way <= LISTED; way++) {
                took(x, "turnInto(9, " + from + ", " + way + ")", x.turnInto(9, from, way), 0);
                holds(x, 9, way);
            }
        }
    }

    @Says(promise = 16, words = "A TEXT is another one, PACKED, or LISTED (way 0, 1): how many ITEMS.")
    static void aTextIsTurnedIntoItsOwnSortOrItself() {
        CharRows x = new CharRows();
        lays(x, 0, PACKED, 97, HIGH, LOW);
        took(x, "packed as packed", x.turnInto(1, 0, PACKED), 3);
        x.put(1, 0, 98);
        holds(x, 0, PACKED, 97, HIGH, LOW);
        took(x, "itself as listed", x.turnInto(0, 0, LISTED), 2);
        holds(x, 0, LISTED, 97, 65536);
        took(x, "listed as listed", x.turnInto(2, 0, LISTED), 2);
        holds(x, 2, LISTED, 97, 65536);
        took(x, "itself as packed", x.turnInto(0, 0, PACKED), 3);
        holds(x, 0, PACKED, 97, HIGH, LOW);
    }

    @Says(promise = 16, words = "A TEXT is another one, PACKED, or LISTED (way 0, 1)")
    static void listedHalvesBecomeAPair() {
        CharRows x = new CharRows();
        lays(x, 0, LISTED, HIGH);
        lays(x, 1, LISTED, LOW);
        x.join(0, 0, 1);
        took(x, "as listed", x.turnInto(2, 0, LISTED), 2);
        holds(x, 2, LISTED, HIGH, LOW);
        took(x, "as packed", x.turnInto(2, 0, PACKED), 2);
        took(x, "points(2)", x.points(2), 1);
        took(x, "as listed again", x.turnInto(2, 2, LISTED), 1);
        holds(x, 2, LISTED, 65536);
    }

    @Says(promise = 16, words = "CODES 1, 2 (BYTES), 6.")
    static void nothingAndBytesAreNotTurned() {
        CharRows x = empties();
        for (int way = PACKED; way <= LISTED; way++) {
            refused(x, "nothing", x.turnInto(0, 9, way), 1);
            refused(x, "bytes", x.turnInto(0, BYTES, way), 2);
            refused(x, "bytes, itself", x.turnInto(BYTES, BYTES, way), 2);
        }
    }

    @Says(promise = 16, words = "CODES 1, 2 (BYTES), 6.")
    static void sixtyUnitsArePackedAndNoMore() {
        CharRows x = new CharRows();
        laysGreat(x, 0, 30);
        took(x, "30 great points", x.turnInto(9, 0, PACKED), 60);
        x.nothing(9);
        lays(x, 1, LISTED, 97);
        x.join(0, 0, 1);
        refused(x, "30 great points and one", x.turnInto(9, 0, PACKED), 6);
        due("sort(9)", x.sort(9), NONE);
        took(x, "31 as listed", x.turnInto(9, 0, LISTED), 31);
        x.cut(0, 0, 1, 30);
        took(x, "29 great points and one", x.turnInto(9, 0, PACKED), 59);
        x.join(0, 0, 1);
        took(x, "29 great points and two", x.turnInto(9, 0, PACKED), 60);
    }

    @Says(promise = 16, words = "CODES 1, 2 (BYTES), 6.")
    static void sixtyGreatPointsAreListedAndNotPacked() {
        CharRows x = new CharRows();
        laysGreat(x, 0, 60);
        took(x, "as listed", x.turnInto(9, 0, LISTED), 60);
        refused(x, "as packed", x.turnInto(9, 0, PACKED), 6);
        due("sort(9)", x.sort(9), LISTED);
    }

    public static void main(String[] args) {
        runAll(TextTest.class);
    }
}
