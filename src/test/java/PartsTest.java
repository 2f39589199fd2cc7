/** The sentences of promises 19 to 23 that name a boundary: texts cut, joined, turned, copied and found. */
public final class PartsTest extends Sentences {
    /** 97, a pair, 98, then a low and a high one that are alone. */
    private static final int[] UNITS = {97, HIGH, LOW, 98, LOW, HIGH};

    private static CharRows made() {
        CharRows x = new CharRows();
        lays(x, 0, PACKED, UNITS);
        return x;
    }

    /** Text t is the listed points 55296, 56320: no pair, as no units are packed there. */
    private static void laysListedHalves(CharRows x, int t) {
        lays(x, t, LISTED, HIGH);
        lays(x, 8, LISTED, LOW);
        x.join(t, t, 8);
    }

    private static void finds(int want, int[] a, int[] b, int from) {
        CharRows x = new CharRows();
        lays(x, 0, PACKED, a);
        lays(x, 1, PACKED, b);
        took(x, "find of " + java.util.Arrays.toString(b) + " in " + java.util.Arrays.toString(a) + " from " + from,
            x.find(0, 1, from), want);
    }

    @Says(promise = 19, words = "A TEXT is n ITEMS of another one, from ITEM i on, of its SORT: n.")
    static void allAndNoneAreCut() {
        for (int sort = PACKED; sort <= BYTES; sort++) {
            CharRows x = new CharRows();
            lays(x, 0, sort, 97, 98, 99);
            took(x, "all", x.cut(1, 0, 0, 3), 3);
            holds(x, 1, sort, 97, 98, 99);
            due("all are a new one", x.same(0, 1), 0);
            took(x, "none at the begin", x.cut(1, 0, 0, 0), 0);
            holds(x, 1, sort);
            took(x, "none at the end", x.cut(1, 0, 3, 0), 0);
            took(x, "the first", x.cut(1, 0, 0, 1), 1);
            holds(x, 1, sort, 97);
            took(x, "the last", x.cut(1, 0, 2, 1), 1);
            holds(x, 1, sort, 99);
            took(x, "none of none", x.cut(1, 0, 0, 0), 0);
            took(x, "none of an empty one", x.cut(1, 1, 0, 0), 0);
            holds(x, 1, sort);
        }
    }

    @Says(promise = 19, words = "A TEXT is n ITEMS of another one")
    static void aTextIsCutOutOfItself() {
        CharRows x = new CharRows();
        lays(x, 0, BYTES, 1, 2, 3);
        x.share(1, 0);
        took(x, "cut(0, 0, 1, 2)", x.cut(0, 0, 1, 2), 2);
        holds(x, 0, BYTES, 2, 3);
        holds(x, 1, BYTES, 1, 2, 3);
    }

    @Says(promise = 19, words = "A TEXT is n ITEMS of another one, from ITEM i on")
    static void theLastOfTheMostBytes() {
        CharRows x = new CharRows();
        laysBytes(x, 0, rows(times(239, 7), 9));
        took(x, "cut(1, 0, 239, 1)", x.cut(1, 0, 239, 1), 1);
        holds(x, 1, BYTES, 9);
        took(x, "cut(1, 0, 0, 240)", x.cut(1, 0, 0, 240), 240);
        refused(x, "cut(1, 0, 0, 241)", x.cut(1, 0, 0, 241), 3);
    }

    @Says(promise = 19, words = "CODES 1, 4, 3, 7")
    static void nothingGoesAheadOfAll() {
        CharRows x = made();
        refused(x, "cut of nothing", x.cut(1, 9, 0, 0), 1);
        refused(x, "and n below 0", x.cut(1, 9, 0, -1), 1);
        refused(x, "and i below 0", x.cut(1, 9, -1, 1), 1);
    }

    @Says(promise = 19, words = "CODES 1, 4, 3, 7")
    static void belowZeroGoesAheadOfNoSuchItemAndOfAPair() {
        CharRows x = made();
        refused(x, "n is -1", x.cut(1, 0, 0, -1), 4);
        refused(x, "n is the least", x.cut(1, 0, 0, LEAST), 4);
        refused(x, "n and i below 0", x.cut(1, 0, -1, -1), 4);
        refused(x, "n below 0, i beyond", x.cut(1, 0, 7, -1), 4);
        refused(x, "n below 0, i within a pair", x.cut(1, 0, 2, -1), 4);
        refused(x, "both the least", x.cut(1, 0, LEAST, LEAST), 4);
    }

    @Says(promise = 19, words = "CODES 1, 4, 3, 7")
    static void noSuchItemIsCut() {
        CharRows x = made();
        refused(x, "i below 0", x.cut(1, 0, -1, 0), 3);
        refused(x, "i below 0, its end within", x.cut(1, 0, -1, 2), 3);
        refused(x, "i beyond", x.cut(1, 0, 7, 0), 3);
        refused(x, "the end beyond", x.cut(1, 0, 5, 2), 3);
        refused(x, "all and one", x.cut(1, 0, 0, 7), 3);
        refused(x, "one behind the last", x.cut(1, 0, 6, 1), 3);
        lays(x, 2, PACKED);
        refused(x, "one of none", x.cut(1, 2, 0, 1), 3);
        refused(x, "none behind none", x.cut(1, 2, 1, 0), 3);
    }

    @Says(promise = 19, words = "CODES 1, 4, 3, 7")
    static void theEndIsBeyondAllNumbers() {
        CharRows x = made();
        refused(x, "1, the greatest", x.cut(1, 0, 1, GREATEST), 3);
        refused(x, "the greatest, 1", x.cut(1, 0, GREATEST, 1), 3);
        refused(x, "the greatest, 0", x.cut(1, 0, GREATEST, 0), 3);
        refused(x, "the greatest, twice", x.cut(1, 0, GREATEST, GREATEST), 3);
        refused(x, "the least, the greatest", x.cut(1, 0, LEAST, GREATEST), 3);
        refused(x, "the least, 0", x.cut(1, 0, LEAST, 0), 3);
    }

    @Says(promise = 19, words = "CODES 1, 4, 3, 7")
    static void noSuchItemGoesAheadOfAPair() {
        CharRows x = made();
        refused(x, "low first, the end beyond", x.cut(1, 0, 2, 5), 3);
        refused(x, "low first, the greatest", x.cut(1, 0, 2, GREATEST), 3);
    }

    @Says(promise = 19, words = "7 (PACKED: a PAIR's LOW UNIT would be the first one")
    static void thePairsLowUnitFirst() {
        CharRows x = made();
        refused(x, "it alone", x.cut(1, 0, 2, 1), 7);
        refused(x, "it and another", x.cut(1, 0, 2, 2), 7);
        refused(x, "it and all behind it", x.cut(1, 0, 2, 4), 7);
        took(x, "the pair", x.cut(1, 0, 1, 2), 2);
        took(x, "right behind it", x.cut(1, 0, 3, 3), 3);
        took(x, "a low one that is alone", x.cut(1, 0, 4, 1), 1);
        holds(x, 1, PACKED, LOW);
    }

    @Says(promise = 19, words = "or a PAIR's HIGH one the last)")
    static void thePairsHighUnitLast() {
        CharRows x = made();
        refused(x, "it alone", x.cut(1, 0, 1, 1), 7);
        refused(x, "one and it", x.cut(1, 0, 0, 2), 7);
        took(x, "up to the pair", x.cut(1, 0, 0, 1), 1);
        took(x, "up to its end", x.cut(1, 0, 0, 3), 3);
        took(x, "a high one at the end", x.cut(1, 0, 5, 1), 1);
        holds(x, 1, PACKED, HIGH);
        lays(x, 2, PACKED, HIGH, HIGH, LOW, LOW);
        took(x, "a high one ahead of a pair", x.cut(1, 2, 0, 1), 1);
        refused(x, "two high ones, the last of a pair", x.cut(1, 2, 0, 2), 7);
        took(x, "a low one behind a pair", x.cut(1, 2, 3, 1), 1);
        refused(x, "two low ones, the first of a pair", x.cut(1, 2, 2, 2), 7);
    }

    @Says(promise = 19, words = "7 (PACKED: a PAIR's LOW UNIT would be the first one, or a PAIR's HIGH one the last)")
    static void noneWithinAPairHaveNoFirstOneAndNoLast() {
        CharRows x = made();
        took(x, "cut(1, 0, 2, 0)", x.cut(1, 0, 2, 0), 0);
        holds(x, 1, PACKED);
    }

    @Says(promise = 19, words = "7 (PACKED:")
    static void listedHalvesAreNoPair() {
        CharRows x = new CharRows();
        laysListedHalves(x, 0);
        took(x, "the first", x.cut(1, 0, 0, 1), 1);
        holds(x, 1, LISTED, HIGH);
        took(x, "the second", x.cut(1, 0, 1, 1), 1);
        holds(x, 1, LISTED, LOW);
    }

    @Says(promise = 20, words = "A TEXT is the ITEMS of a, then of b: how many.")
    static void emptyOnesAreJoined() {
        for (int sort = PACKED; sort <= BYTES; sort++) {
            CharRows x = new CharRows();
            x.lay(0, sort);
            lays(x, 1, sort, 97, 98);
            took(x, "none and none", x.join(2, 0, 0), 0);
            holds(x, 2, sort);
            took(x, "none and two", x.join(2, 0, 1), 2);
            holds(x, 2, sort, 97, 98);
            due("are a new one", x.same(1, 2), 0);
            took(x, "two and none", x.join(2, 1, 0), 2);
            holds(x, 2, sort, 97, 98);
        }
    }

    @Says(promise = 20, words = "A TEXT is the ITEMS of a, then of b: how many.")
    static void aTextIsJoinedIntoItself() {
        CharRows x = new CharRows();
        lays(x, 0, PACKED, 1, 2);
        lays(x, 1, PACKED, 3);
        x.share(2, 0);
        took(x, "join(0, 0, 1)", x.join(0, 0, 1), 3);
        holds(x, 0, PACKED, 1, 2, 3);
        holds(x, 2, PACKED, 1, 2);
        took(x, "join(0, 1, 0)", x.join(0, 1, 0), 4);
        holds(x, 0, PACKED, 3, 1, 2, 3);
        took(x, "join(1, 1, 1)", x.join(1, 1, 1), 2);
        holds(x, 1, PACKED, 3, 3);
    }

    @Says(promise = 20, words = "A TEXT is the ITEMS of a, then of b")
    static void halvesThatMeetAreAPairIfPacked() {
        CharRows x = new CharRows();
        lays(x, 0, PACKED, HIGH);
        lays(x, 1, PACKED, LOW);
        took(x, "high and low", x.join(2, 0, 1), 2);
        took(x, "points(2)", x.points(2), 1);
        laysListedHalves(x, 3);
        holds(x, 3, LISTED, HIGH, LOW);
    }

    @Says(promise = 20, words = "CODES 1 (either), 2 (unlike SORTS), 6.")
    static void nothingOnEitherSideGoesAheadOfAll() {
        CharRows x = new CharRows();
        lays(x, 0, PACKED, 97);
        refused(x, "a is nothing", x.join(2, 9, 0), 1);
        refused(x, "b is nothing", x.join(2, 0, 9), 1);
        refused(x, "both are", x.join(2, 9, 8), 1);
    }

    @Says(promise = 20, words = "2 (unlike SORTS), 6.")
    static void unlikeSortsGoAheadOfTooMany() {
        CharRows x = new CharRows();
        drafts(x, times(60, 7));
        for (int sort = PACKED; sort <= BYTES; sort++) {
            x.lay(sort, sort);
        }
        for (int a = PACKED; a <= BYTES; a++) {
            for (int b = PACKED; b <= BYTES; b++) {
                if (a != b) {
                    refused(x, "join(9, " + a + ", " + b + ")", x.join(9, a, b), 2);
                }
            }
        }
        due("sort(9)", x.sort(9), NONE);
    }

    @Says(promise = 20, words = "6.")
    static void theMostItemsAreJoined() {
        for (int sort = PACKED; sort <= BYTES; sort++) {
            int most = sort == BYTES ? 240 : 60;
            CharRows x = new CharRows();
            lays(x, 0, sort, times(60, 7));
            if (sort == BYTES) {
                x.join(0, 0, 0);
                x.join(0, 0, 0);
            }
            x.cut(0, 0, 0, most - 1);
            lays(x, 1, sort, 8);
            lays(x, 2, sort, 8, 9);
            took(x, "as many as may be", x.join(3, 0, 1), most);
            due("the last", x.at(3, most - 1), 8);
            refused(x, "one more", x.join(4, 0, 2), 6);
            refused(x, "one more, the other way", x.join(4, 2, 0), 6);
            due("sort(4)", x.sort(4), NONE);
        }
    }

    @Says(promise = 21, words = "A TEXT is the POINTS of another one in the other order (BYTES: bytes), of its SORT: how many ITEMS.")
    static void noneAndOneAndTheMostAreTurned() {
        for (int sort = PACKED; sort <= BYTES; sort++) {
            CharRows x = new CharRows();
            x.lay(0, sort);
            took(x, "none", x.back(1, 0), 0);
            holds(x, 1, sort);
            lays(x, 0, sort, 97);
            took(x, "one", x.back(1, 0), 1);
            holds(x, 1, sort, 97);
            due("is a new one", x.same(0, 1), 0);
            lays(x, 0, sort, rows(times(59, 7), 8));
            took(x, "60", x.back(1, 0), 60);
            holds(x, 1, sort, rows(of(8), times(59, 7)));
        }
    }

    @Says(promise = 21, words = "(BYTES: bytes)")
    static void theMostBytesAreTurned() {
        CharRows x = new CharRows();
        laysBytes(x, 0, rows(rows(of(1), times(238, 7)), 2));
        took(x, "back(1, 0)", x.back(1, 0), 240);
        due("at(1, 0)", x.at(1, 0), 2);
        due("at(1, 1)", x.at(1, 1), 7);
        due("at(1, 238)", x.at(1, 238), 7);
        due("at(1, 239)", x.at(1, 239), 1);
    }

    @Says(promise = 21, words = "the POINTS of another one in the other order")
    static void pairsStayAndHalvesThatMeetAreAPair() {
        CharRows x = new CharRows();
        lays(x, 0, PACKED, HIGH, LOW, 97, 56319, 57343);
        took(x, "pairs", x.back(1, 0), 5);
        holds(x, 1, PACKED, 56319, 57343, 97, HIGH, LOW);
        lays(x, 0, PACKED, LOW, HIGH);
        took(x, "low, high", x.back(0, 0), 2);
        holds(x, 0, PACKED, HIGH, LOW);
        took(x, "the pair that they are now", x.back(0, 0), 2);
        holds(x, 0, PACKED, HIGH, LOW);
        laysGreat(x, 2, 30);
        x.turnInto(2, 2, PACKED);
        took(x, "30 pairs", x.back(3, 2), 60);
        took(x, "are as they were", x.compare(2, 3, 0), 0);
    }

    @Says(promise = 21, words = "the POINTS of another one in the other order")
    static void listedHalvesAreTwoPoints() {
        CharRows x = new CharRows();
        laysListedHalves(x, 0);
        took(x, "back(1, 0)", x.back(1, 0), 2);
        holds(x, 1, LISTED, LOW, HIGH);
        laysGreat(x, 2, 60);
        took(x, "60 great points", x.back(3, 2), 60);
    }

    @Says(promise = 21, words = "CODE 1.")
    static void nothingIsNotTurned() {
        CharRows x = made();
        refused(x, "back(0, 9)", x.back(0, 9), 1);
        holds(x, 0, PACKED, UNITS);
    }

    @Says(promise = 22, words = "n ITEMS of a PACKED TEXT, of BYTES, from i on, go into another one of that SORT, from j on")
    static void allAndNoneAreCopied() {
        for (int sort = PACKED; sort <= BYTES; sort += 2) {
            CharRows x = new CharRows();
            lays(x, 0, sort, 1, 2, 3);
            lays(x, 1, sort, 4, 5, 6);
            took(x, "none at the begin", x.copy(0, 0, 1, 0, 0), 0);
            took(x, "none at both ends", x.copy(0, 3, 1, 3, 0), 0);
            holds(x, 1, sort, 4, 5, 6);
            took(x, "the last to the first", x.copy(0, 2, 1, 0, 1), 1);
            holds(x, 1, sort, 3, 5, 6);
            took(x, "the first to the last", x.copy(0, 0, 1, 2, 1), 1);
            holds(x, 1, sort, 3, 5, 1);
            took(x, "all", x.copy(0, 0, 1, 0, 3), 3);
            holds(x, 1, sort, 1, 2, 3);
            holds(x, 0, sort, 1, 2, 3);
            x.fresh();
            x.lay(2, sort);
            took(x, "none of none", x.copy(2, 0, 2, 0, 0), 0);
        }
    }

    @Says(promise = 22, words = "as the machine copies")
    static void aTextIsCopiedIntoItself() {
        for (int other = 0; other < 2; other++) {
            CharRows x = new CharRows();
            lays(x, 0, PACKED, 1, 2, 3, 4, 5);
            x.share(1, 0);
            took(x, "one on", x.copy(0, 0, other, 1, 4), 4);
            holds(x, 0, PACKED, 1, 1, 2, 3, 4);
            took(x, "one back", x.copy(0, 1, other, 0, 4), 4);
            holds(x, 0, PACKED, 1, 2, 3, 4, 4);
            took(x, "where it is", x.copy(0, 0, other, 0, 5), 5);
            holds(x, 0, PACKED, 1, 2, 3, 4, 4);
        }
    }

    @Says(promise = 22, words = "n ITEMS of a PACKED TEXT, of BYTES, from i on, go into another one of that SORT")
    static void wherePairsArePartedAndKeptOnesChange() {
        CharRows x = made();
        lays(x, 1, PACKED, 1, 2, 3);
        x.share(2, 1);
        x.keep(1);
        took(x, "the half of a pair", x.copy(0, 2, 1, 1, 2), 2);
        holds(x, 2, PACKED, 1, LOW, 98);
        x.nothing(1);
        x.nothing(2);
        lays(x, 3, PACKED, 1, LOW, 98);
        took(x, "the kept one is changed", x.keep(3), 0);
    }

    @Says(promise = 22, words = "CODES 1 (either), 2 (LISTED, unlike SORTS), 3")
    static void nothingOnEitherSideGoesAheadOfTheOtherCodes() {
        CharRows x = new CharRows();
        lays(x, 0, PACKED, 97);
        lays(x, 1, LISTED, 97);
        refused(x, "x is nothing", x.copy(9, 0, 0, 0, 0), 1);
        refused(x, "y is nothing", x.copy(0, 0, 9, 0, 0), 1);
        refused(x, "both are", x.copy(9, 0, 8, 0, 0), 1);
        refused(x, "the other is listed", x.copy(1, 0, 9, 0, 0), 1);
        refused(x, "the other is listed", x.copy(9, 0, 1, 0, 0), 1);
        refused(x, "n below 0", x.copy(9, 0, 0, 0, -1), 1);
    }

    @Says(promise = 22, words = "2 (LISTED, unlike SORTS), 3")
    static void unlikeSortsGoAheadOfNoSuchItem() {
        CharRows x = new CharRows();
        drafts(x, 97);
        for (int sort = PACKED; sort <= BYTES; sort++) {
            x.lay(sort, sort);
        }
        for (int a = PACKED; a <= BYTES; a++) {
            for (int b = PACKED; b <= BYTES; b++) {
                if (a != b || a == LISTED) {
                    refused(x, "copy of " + a + " into " + b, x.copy(a, 0, b, 0, 1), 2);
                    refused(x, "and none", x.copy(a, 0, b, 0, 0), 2);
                    refused(x, "and below 0", x.copy(a, -1, b, -1, -1), 2);
                }
            }
        }
    }

    @Says(promise = 22, words = "3 (i, j, n below 0")
    static void belowZeroIsNotCopied() {
        CharRows x = made();
        lays(x, 1, PACKED, 1, 2, 3);
        refused(x, "i is -1", x.copy(0, -1, 1, 0, 1), 3);
        refused(x, "i is -1, n 0", x.copy(0, -1, 1, 0, 0), 3);
        refused(x, "j is -1", x.copy(0, 0, 1, -1, 1), 3);
        refused(x, "j is -1, n 0", x.copy(0, 0, 1, -1, 0), 3);
        refused(x, "n is -1", x.copy(0, 0, 1, 0, -1), 3);
        refused(x, "n is -1 behind the first", x.copy(0, 1, 1, 1, -1), 3);
        refused(x, "i is the least", x.copy(0, LEAST, 1, 0, 1), 3);
        refused(x, "j is the least", x.copy(0, 0, 1, LEAST, 1), 3);
        refused(x, "n is the least", x.copy(0, 0, 1, 0, LEAST), 3);
        refused(x, "all are the least", x.copy(0, LEAST, 1, LEAST, LEAST), 3);
        holds(x, 1, PACKED, 1, 2, 3);
    }

    @Says(promise = 22, words = "or beyond)")
    static void beyondIsNotCopied() {
        CharRows x = made();
        lays(x, 1, PACKED, 1, 2, 3);
        refused(x, "i beyond, n 0", x.copy(0, 7, 1, 0, 0), 3);
        refused(x, "j beyond, n 0", x.copy(0, 0, 1, 4, 0), 3);
        refused(x, "i at the end", x.copy(0, 6, 1, 0, 1), 3);
        refused(x, "j at the end", x.copy(0, 0, 1, 3, 1), 3);
        refused(x, "i and n beyond", x.copy(1, 2, 0, 0, 2), 3);
        refused(x, "j and n beyond", x.copy(0, 0, 1, 2, 2), 3);
        refused(x, "n beyond the other", x.copy(0, 0, 1, 0, 4), 3);
        refused(x, "n beyond it", x.copy(1, 0, 0, 0, 4), 3);
        holds(x, 1, PACKED, 1, 2, 3);
        took(x, "up to both ends", x.copy(0, 4, 1, 1, 2), 2);
        holds(x, 1, PACKED, 1, LOW, HIGH);
    }

    @Says(promise = 22, words = "or beyond)")
    static void beyondAllNumbersIsNotCopied() {
        CharRows x = made();
        lays(x, 1, PACKED, 1, 2, 3);
        refused(x, "n", x.copy(0, 0, 1, 0, GREATEST), 3);
        refused(x, "i and n", x.copy(0, 1, 1, 0, GREATEST), 3);
        refused(x, "j and n", x.copy(0, 0, 1, 1, GREATEST), 3);
        refused(x, "i", x.copy(0, GREATEST, 1, 0, 1), 3);
        refused(x, "j", x.copy(0, 0, 1, GREATEST, 1), 3);
        refused(x, "all", x.copy(0, GREATEST, 1, GREATEST, GREATEST), 3);
        holds(x, 1, PACKED, 1, 2, 3);
    }

    @Says(promise = 23, words = "The first place from ITEM i on (i 0 or more; below 0 as 0)")
    static void wherePlacesAreLookedAtFrom() {
        int[] a = of(97, 98, 97, 98, 97);
        for (int from : of(0, -1, -60, LEAST)) {
            finds(0, a, of(97), from);
            finds(1, a, of(98), from);
        }
        finds(2, a, of(97), 1);
        finds(2, a, of(97), 2);
        finds(4, a, of(97), 3);
        finds(4, a, of(97), 4);
        for (int from : of(5, 6, 60, GREATEST)) {
            finds(NONE, a, of(97), from);
        }
    }

    @Says(promise = 23, words = "at which all ITEMS of b stand in a")
    static void allItemsStandThere() {
        int[] a = of(97, 97, 98, 97, 97);
        finds(1, a, of(97, 98), 0);
        finds(3, a, of(97, 97), 1);
        finds(NONE, a, of(97, 97, 97), 0);
        finds(NONE, a, of(97, 99), 0);
        finds(0, a, a, 0);
        finds(NONE, a, a, 1);
        finds(NONE, a, of(97, 97, 98, 97, 97, 97), 0);
        finds(NONE, of(), of(97), 0);
        finds(1, of(97, 97, 97), of(97, 97), 1);
        finds(59, rows(times(59, 97), 98), of(98), 0);
    }

    @Says(promise = 23, words = "PACKED: with no PAIR of a parted at its begin and end;")
    static void noPairIsParted() {
        finds(NONE, of(HIGH, LOW), of(LOW), 0);
        finds(NONE, of(HIGH, LOW), of(HIGH), 0);
        finds(0, of(HIGH, LOW), of(HIGH, LOW), 0);
        finds(NONE, of(97, HIGH, LOW), of(97, HIGH), 0);
        finds(NONE, of(HIGH, LOW, 97), of(LOW, 97), 0);
        finds(0, of(HIGH, HIGH, LOW), of(HIGH), 0);
        finds(NONE, of(HIGH, HIGH, LOW), of(HIGH), 1);
        finds(1, of(HIGH, HIGH, LOW), of(HIGH, LOW), 0);
        finds(NONE, of(HIGH, HIGH, LOW), of(HIGH, HIGH), 0);
        finds(2, of(HIGH, LOW, LOW), of(LOW), 0);
        finds(NONE, of(HIGH, LOW, LOW), of(LOW, LOW), 0);
        finds(0, of(LOW, HIGH), of(LOW), 0);
        finds(1, of(LOW, HIGH), of(HIGH), 0);
        finds(4, of(97, HIGH, LOW, 98, 97, HIGH), of(97, HIGH), 0);
    }

    @Says(promise = 23, words = "both of one SORT, PACKED: with no PAIR")
    static void listedHalvesAndBytesAreNoPairs() {
        CharRows x = new CharRows();
        laysListedHalves(x, 0);
        lays(x, 1, LISTED, LOW);
        took(x, "listed low one", x.find(0, 1, 0), 1);
        lays(x, 1, LISTED, HIGH);
        took(x, "listed high one", x.find(0, 1, 0), 0);
        lays(x, 1, LISTED);
        took(x, "empty between them", x.find(0, 1, 1), 1);
        laysBytes(x, 2, rows(times(239, 7), 9));
        lays(x, 3, BYTES, 7, 9);
        took(x, "the last of 240 bytes", x.find(2, 3, 0), 238);
        took(x, "behind them", x.find(2, 3, 239), NONE);
    }

    @Says(promise = 23, words = "NONE;")
    static void notFoundIsDoneAllTheSame() {
        CharRows x = made();
        lays(x, 1, PACKED, 5);
        x.at(0, 60);
        took(x, "find(0, 1, 0)", x.find(0, 1, 0), NONE);
    }

    @Says(promise = 23, words = "NONE also with CODES 1 (either), 2.")
    static void noneWithEachCode() {
        CharRows x = new CharRows();
        for (int sort = PACKED; sort <= BYTES; sort++) {
            x.lay(sort, sort);
            due("find(" + sort + ", 9, 0)", x.find(sort, 9, 0), NONE);
            due("code()", x.code(), 1);
            due("find(9, " + sort + ", 0)", x.find(9, sort, 0), NONE);
            due("code()", x.code(), 1);
        }
        due("find(9, 8, 0)", x.find(9, 8, 0), NONE);
        due("code()", x.code(), 1);
        for (int a = PACKED; a <= BYTES; a++) {
            for (int b = PACKED; b <= BYTES; b++) {
                due("find(" + a + ", " + b + ", 0)", x.find(a, b, 0), a == b ? 0 : NONE);
                due("code()", x.code(), a == b ? 0 : 2);
            }
        }
    }

    @Says(promise = 23, words = "(An empty one stands at the first such place, up to the end.)")
    static void anEmptyOneStandsUpToTheEnd() {
        int[] a = of(97, HIGH, LOW, HIGH);
        finds(0, a, of(), LEAST);
        finds(0, a, of(), 0);
        finds(1, a, of(), 1);
        finds(3, a, of(), 2);
        finds(3, a, of(), 3);
        finds(4, a, of(), 4);
        finds(NONE, a, of(), 5);
        finds(NONE, a, of(), GREATEST);
        finds(2, of(HIGH, LOW), of(), 1);
        finds(0, of(), of(), 0);
        finds(0, of(), of(), -1);
        finds(NONE, of(), of(), 1);
    }

    public static void main(String[] args) {
        runAll(PartsTest.class);
    }
}
