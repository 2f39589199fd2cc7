/** The sentences of promises 1 to 7 that name a boundary: a new object, its code and place, the draft. */
public final class DraftTest extends Sentences {
    /** Text 0 is packed, text 2 is bytes, text 3 is nothing. */
    private static CharRows made() {
        CharRows x = new CharRows();
        lays(x, 0, PACKED, 97, 98);
        lays(x, 2, BYTES, 97, 98);
        return x;
    }

    private static void tellsCode(String what, int answer, Call call) {
        CharRows x = made();
        refused(x, "at(0, 2)", x.at(0, 2), 3);
        took(x, what, call.on(x), answer);
        CharRows y = made();
        took(y, what + " after code 0", call.on(y), answer);
    }

    private static void tellsNoCode(String what, int answer, Call call) {
        CharRows x = made();
        refused(x, "at(0, 2)", x.at(0, 2), 3);
        due(what, call.on(x), answer);
        due("code() after " + what, x.code(), 3);
        CharRows y = made();
        took(y, what + " after code 0", call.on(y), answer);
    }

    @Says(promise = 1, words = "All TEXTS are NOTHING")
    static void allTextsAreNothing() {
        CharRows x = new CharRows();
        for (int t = 0; t < 10; t++) {
            due("sort(" + t + ")", x.sort(t), NONE);
            due("same(0, " + t + ")", x.same(0, t), 1);
        }
    }

    @Says(promise = 1, words = "THE DRAFT is empty")
    static void theDraftIsEmpty() {
        CharRows x = new CharRows();
        due("lay(0, 0)", x.lay(0, PACKED), 0);
        due("fresh()", x.fresh(), 0);
        due("unit(7)", new CharRows().unit(7), 1);
        due("point(65536)", new CharRows().point(65536), 2);
    }

    @Says(promise = 1, words = "nothing is kept")
    static void nothingIsKept() {
        CharRows x = new CharRows();
        due("kept()", x.kept(), 0);
        x.lay(0, PACKED);
        took(x, "keep of an empty one", x.keep(0), 0);
        due("kept()", x.kept(), 1);
    }

    @Says(promise = 1, words = "CODE 0.")
    static void theCodeIsZero() {
        due("code()", new CharRows().code(), 0);
        CharRows x = new CharRows();
        x.sort(0);
        due("code() after sort(0)", x.code(), 0);
    }

    @Says(promise = 1, words = "A new object")
    static void anotherObjectLeavesANewOneAlone() {
        CharRows used = new CharRows();
        CharRows older = new CharRows();
        lays(used, 0, PACKED, 97, LOW);
        used.keep(0);
        used.unit(5);
        used.tell(1, 0, 0);
        for (CharRows x : new CharRows[] {older, new CharRows()}) {
            due("code()", x.code(), 0);
            due("place()", x.place(), NONE);
            due("sort(0)", x.sort(0), NONE);
            due("kept()", x.kept(), 0);
            due("fresh()", x.fresh(), 0);
        }
    }

    @Says(promise = 2, words = "CODE of the latest call of those below that tell one.")
    static void theLatestCallTells() {
        CharRows x = made();
        refused(x, "at(0, 2)", x.at(0, 2), 3);
        refused(x, "points(2)", x.points(2), 2);
        refused(x, "length(3)", x.length(3), 1);
        refused(x, "cut", x.cut(1, 0, 0, -1), 4);
        took(x, "length(0)", x.length(0), 2);
    }

    @Says(promise = 2, words = "CODE of the latest call of those below that tell one.")
    static void aCallThatWasDoneTellsZero() {
        tellsCode("point", 1, x -> x.point(97));
        tellsCode("unit", 1, x -> x.unit(97));
        tellsCode("lay", 0, x -> x.lay(9, LISTED));
        tellsCode("length", 2, x -> x.length(0));
        tellsCode("points", 2, x -> x.points(0));
        tellsCode("at", 97, x -> x.at(0, 0));
        tellsCode("pointAt", 98, x -> x.pointAt(0, 1));
        tellsCode("put", 97, x -> x.put(0, 0, 5));
        tellsCode("turnInto", 2, x -> x.turnInto(9, 0, LISTED));
        tellsCode("tell", 4, x -> x.tell(9, 0, 1));
        tellsCode("read", 2, x -> x.read(9, 2, 3));
        tellsCode("cut", 0, x -> x.cut(9, 0, 0, 0));
        tellsCode("join", 4, x -> x.join(9, 0, 0));
        tellsCode("back", 2, x -> x.back(9, 0));
        tellsCode("copy", 0, x -> x.copy(0, 0, 0, 0, 0));
        tellsCode("find", 0, x -> x.find(0, 0, 0));
        tellsCode("find, NONE", NONE, x -> x.find(0, 0, 1));
        tellsCode("compare", 0, x -> x.compare(0, 0, 0));
        tellsCode("change", 2, x -> x.change(9, 0, 0));
        tellsCode("keep", 0, x -> x.keep(0));
    }

    @Says(promise = 2, words = "CODE of the latest call of those below that tell one.")
    static void theCallsThatTellNoneLeaveIt() {
        tellsNoCode("fresh", 0, x -> x.fresh());
        tellsNoCode("share", PACKED, x -> x.share(9, 0));
        tellsNoCode("share of nothing", NONE, x -> x.share(9, 3));
        tellsNoCode("nothing", PACKED, x -> x.nothing(0));
        tellsNoCode("nothing of nothing", NONE, x -> x.nothing(3));
        tellsNoCode("sort", BYTES, x -> x.sort(2));
        tellsNoCode("sort of nothing", NONE, x -> x.sort(3));
        tellsNoCode("kept", 0, x -> x.kept());
        tellsNoCode("same", 0, x -> x.same(0, 3));
        tellsNoCode("same, both nothing", 1, x -> x.same(3, 4));
        tellsNoCode("kind", 3, x -> x.kind(65));
        tellsNoCode("place", NONE, x -> x.place());
    }

    @Says(promise = 2, words = "CODE of the latest call of those below that tell one.")
    static void askingForTheCodeLeavesIt() {
        CharRows x = made();
        x.at(0, 2);
        due("code()", x.code(), 3);
        due("code() again", x.code(), 3);
    }

    @Says(promise = 3, words = "The place of the latest CODE 5;")
    static void theLatestPlaceIsTold() {
        CharRows x = new CharRows();
        lays(x, 0, PACKED, 97, 97, 97, LOW);
        lays(x, 1, BYTES, 97, 255);
        lays(x, 2, BYTES, 1, 2, 3);
        brokenAt(x, "tell", x.tell(9, 0, 0), 3);
        brokenAt(x, "read", x.read(9, 1, 0), 1);
        brokenAt(x, "read, odd", x.read(9, 2, 1), 2);
        lays(x, 2, BYTES, 255);
        brokenAt(x, "read, at 0", x.read(9, 2, 0), 0);
    }

    @Says(promise = 3, words = "The place of the latest CODE 5;")
    static void thePlaceStaysAfterCallsThatAreDone() {
        CharRows x = new CharRows();
        lays(x, 0, PACKED, 97, 97, LOW);
        x.tell(9, 0, 0);
        took(x, "tell", x.tell(9, 0, 1), 6);
        due("place()", x.place(), 2);
        took(x, "read", x.read(8, 9, 1), 3);
        due("place()", x.place(), 2);
        due("place() again", x.place(), 2);
    }

    @Says(promise = 3, words = "NONE: there was none.")
    static void thereWasNoCodeFive() {
        CharRows x = new CharRows();
        due("place()", x.place(), NONE);
        lays(x, 0, PACKED, 97);
        x.length(9);
        x.at(0, 7);
        x.cut(1, 0, 0, -1);
        due("place() after other codes", x.place(), NONE);
    }

    @Says(promise = 4, words = "The UNITS of a POINT come behind THE DRAFT: how many it has.")
    static void aPointComesBehindTheDraft() {
        CharRows x = new CharRows();
        took(x, "point(97)", x.point(97), 1);
        took(x, "point(65536)", x.point(65536), 3);
        took(x, "point(65535)", x.point(65535), 4);
        took(x, "point(56320)", x.point(LOW), 5);
        x.lay(0, PACKED);
        holds(x, 0, PACKED, 97, HIGH, LOW, 65535, LOW);
    }

    @Says(promise = 4, words = "CODE 6.")
    static void aPairHasNoRoomBehind59() {
        CharRows x = new CharRows();
        drafts(x, times(59, 7));
        refused(x, "point(65536)", x.point(65536), 6);
        refused(x, "point(1114111)", x.point(1114111), 6);
        x.lay(0, PACKED);
        due("none of it is there", itemsOf(x, 0), java.util.Arrays.toString(times(59, 7)));
        took(x, "point(65535)", x.point(65535), 60);
    }

    @Says(promise = 4, words = "CODE 6.")
    static void aPairFillsTheDraft() {
        CharRows x = new CharRows();
        drafts(x, times(58, 7));
        took(x, "point(65536)", x.point(65536), 60);
        due("lay(0, 0)", x.lay(0, PACKED), 60);
        due("at(0, 58)", x.at(0, 58), HIGH);
        due("at(0, 59)", x.at(0, 59), LOW);
    }

    @Says(promise = 4, words = "CODE 6.")
    static void noPointHasRoomBehind60() {
        CharRows x = new CharRows();
        for (int k = 1; k <= 30; k++) {
            took(x, "point(65536)", x.point(65536), 2 * k);
        }
        refused(x, "point(0)", x.point(0), 6);
        refused(x, "point(65536)", x.point(65536), 6);
        due("fresh()", x.fresh(), 60);
        took(x, "point(0) after fresh()", x.point(0), 1);
    }

    @Says(promise = 5, words = "A UNIT comes behind THE DRAFT: how many it has.")
    static void aUnitComesBehindTheDraft() {
        CharRows x = new CharRows();
        took(x, "unit(55296)", x.unit(HIGH), 1);
        took(x, "unit(56320)", x.unit(LOW), 2);
        took(x, "unit(0)", x.unit(0), 3);
        took(x, "unit(65535)", x.unit(65535), 4);
        x.lay(0, LISTED);
        holds(x, 0, LISTED, 65536, 0, 65535);
    }

    @Says(promise = 5, words = "CODE 6.")
    static void noUnitHasRoomBehind60() {
        CharRows x = new CharRows();
        drafts(x, times(59, 7));
        took(x, "unit(8)", x.unit(8), 60);
        refused(x, "unit(9)", x.unit(9), 6);
        refused(x, "unit(9) again", x.unit(9), 6);
        due("lay(0, 0)", x.lay(0, PACKED), 60);
        due("at(0, 59)", x.at(0, 59), 8);
    }

    @Says(promise = 6, words = "THE DRAFT is empty: how many it had.")
    static void anEmptyAndAFullDraft() {
        CharRows x = new CharRows();
        due("fresh() of none", x.fresh(), 0);
        x.unit(1);
        due("fresh() of one", x.fresh(), 1);
        due("fresh() again", x.fresh(), 0);
        drafts(x, times(60, 7));
        x.unit(8);
        due("fresh() of 60", x.fresh(), 60);
        due("lay(0, 0)", x.lay(0, PACKED), 0);
        took(x, "unit(9)", x.unit(9), 1);
        x.lay(0, PACKED);
        holds(x, 0, PACKED, 9);
    }

    @Says(promise = 6, words = "THE DRAFT is empty")
    static void noneOfWhatItHadIsLeft() {
        CharRows x = new CharRows();
        drafts(x, 97, LOW, LOW);
        x.fresh();
        took(x, "unit(55296)", x.unit(HIGH), 1);
        for (int sort = PACKED; sort <= BYTES; sort++) {
            took(x, "lay(0, " + sort + ")", x.lay(0, sort), 1);
        }
        x.lay(0, LISTED);
        holds(x, 0, LISTED, HIGH);
        x.lay(0, PACKED);
        took(x, "points(0)", x.points(0), 1);
    }

    @Says(promise = 6, words = "(No CODE.)")
    static void freshLeavesTheCode() {
        CharRows x = new CharRows();
        drafts(x, times(60, 7));
        refused(x, "unit(8)", x.unit(8), 6);
        x.fresh();
        due("code()", x.code(), 6);
    }

    @Says(promise = 7, words = "A TEXT is THE DRAFT, of SORT 0 or 1 (WAY), or 2")
    static void anEmptyDraftIsAnEmptyText() {
        CharRows x = new CharRows();
        for (int sort = PACKED; sort <= BYTES; sort++) {
            took(x, "lay(0, " + sort + ")", x.lay(0, sort), 0);
            holds(x, 0, sort);
            took(x, "length(0)", x.length(0), 0);
        }
    }

    @Says(promise = 7, words = "how many ITEMS.")
    static void aFullDraftIsATextOfEachSort() {
        CharRows x = new CharRows();
        drafts(x, times(60, 7));
        for (int sort = PACKED; sort <= BYTES; sort++) {
            took(x, "lay(0, " + sort + ")", x.lay(0, sort), 60);
        }
        x.fresh();
        for (int k = 0; k < 30; k++) {
            x.point(65536);
        }
        took(x, "30 pairs, packed", x.lay(0, PACKED), 60);
        took(x, "30 pairs, listed", x.lay(1, LISTED), 30);
        took(x, "30 pairs, bytes", x.lay(2, BYTES), 60);
        due("at(1, 29)", x.at(1, 29), 65536);
    }

    @Says(promise = 7, words = "or 2: the lowest 8 bits of each UNIT")
    static void bytesAreTheLowestEightBits() {
        CharRows x = new CharRows();
        drafts(x, 0, 255, 256, 511, 512, 65535, HIGH, LOW);
        took(x, "lay(0, 2)", x.lay(0, BYTES), 8);
        holds(x, 0, BYTES, 0, 255, 0, 255, 0, 255, 0, 0);
    }

    @Says(promise = 7, words = "THE DRAFT stays")
    static void theDraftStaysAsItIs() {
        CharRows x = new CharRows();
        drafts(x, HIGH, LOW, 511);
        for (int sort = PACKED; sort <= BYTES; sort++) {
            x.lay(sort, sort);
        }
        x.put(0, 0, 1);
        x.put(2, 0, 1);
        took(x, "unit(5)", x.unit(5), 4);
        x.lay(3, PACKED);
        holds(x, 3, PACKED, HIGH, LOW, 511, 5);
        holds(x, 0, PACKED, 1, LOW, 511);
        holds(x, 1, LISTED, 65536, 511);
        holds(x, 2, BYTES, 1, 0, 255);
    }

    @Says(promise = 7, words = "A TEXT is THE DRAFT")
    static void aTextLaidLeavesTheOneItWas() {
        CharRows x = new CharRows();
        lays(x, 0, PACKED, 5, 6);
        x.share(1, 0);
        x.keep(1);
        lays(x, 0, BYTES, 7);
        holds(x, 0, BYTES, 7);
        holds(x, 1, PACKED, 5, 6);
        due("same(0, 1)", x.same(0, 1), 0);
        due("kept()", x.kept(), 1);
    }

    public static void main(String[] args) {
        runAll(DraftTest.class);
    }
}
