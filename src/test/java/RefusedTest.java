/** The sentences of 'Terms' on CODES and on OUTSIDE: a call that is refused leaves all as it was. */
public final class RefusedTest extends Sentences {
    /** A call that is given one number that is none of its kind. */
    private interface WrongCall {
        int on(CharRows x, int none);
    }

    private static final int[] NO_TEXTS = {-1, 10, LEAST, GREATEST};
    private static final int[] NO_POINTS = {-1, 1114112, LEAST, GREATEST};
    private static final int[] NO_UNITS = {-1, 65536, LEAST, GREATEST};
    private static final int[] NO_FORMS = {-1, 4, LEAST, GREATEST};
    private static final int[] NO_WAYS = {-1, 2, LEAST, GREATEST};
    private static final int[] NO_SORTS = {-1, 3, LEAST, GREATEST};

    /** An object of which every call can be refused; the place is 1. Text 3 is nothing, the draft full. */
    private static CharRows made() {
        CharRows x = new CharRows();
        laysGreat(x, 4, 31);
        laysBytes(x, 5, rows(times(60, 65), 66));
        lays(x, 0, PACKED, 97, HIGH, LOW, 98);
        x.turnInto(1, 0, LISTED);
        lays(x, 2, BYTES, 97, 255);
        lays(x, 6, PACKED, 97, LOW);
        x.share(7, 0);
        lays(x, 8, PACKED, 5);
        x.keep(8);
        drafts(x, times(60, 300));
        x.lay(9, PACKED);
        x.tell(1, 6, 0);
        return x;
    }

    private static void isRefused(String what, int code, int answer, Call call) {
        CharRows x = made();
        CharRows twin = made();
        due(what, call.on(x), answer);
        due("code() after " + what, x.code(), code);
        if (code != 5) {
            due("place() after " + what, x.place(), twin.place());
        }
        due("all after " + what, look(x), look(twin));
    }

    private static void isRefused(String what, int code, Call call) {
        isRefused(what, code, 0, call);
    }

    @Says(promise = 0, words = "1 there is NOTHING;")
    static void whereThereIsNothing() {
        isRefused("length", 1, x -> x.length(3));
        isRefused("points", 1, x -> x.points(3));
        isRefused("at", 1, x -> x.at(3, 0));
        isRefused("pointAt", 1, x -> x.pointAt(3, 0));
        isRefused("put", 1, x -> x.put(3, 0, 1));
        isRefused("turnInto", 1, x -> x.turnInto(0, 3, PACKED));
        isRefused("tell", 1, x -> x.tell(0, 3, 1));
        isRefused("read", 1, x -> x.read(0, 3, 1));
        isRefused("cut", 1, x -> x.cut(0, 3, 0, 0));
        isRefused("join, a", 1, x -> x.join(0, 3, 6));
        isRefused("join, b", 1, x -> x.join(0, 6, 3));
        isRefused("join, both", 1, x -> x.join(0, 3, 3));
        isRefused("back", 1, x -> x.back(0, 3));
        isRefused("copy, x", 1, x -> x.copy(3, 0, 0, 0, 0));
        isRefused("copy, y", 1, x -> x.copy(0, 0, 3, 0, 0));
        isRefused("compare, a", 1, x -> x.compare(3, 0, 0));
        isRefused("compare, b", 1, x -> x.compare(0, 3, 1));
        isRefused("change", 1, x -> x.change(0, 3, 0));
        isRefused("keep", 1, x -> x.keep(3));
    }

    @Says(promise = 0, words = "2 another SORT;")
    static void whereItIsAnotherSort() {
        isRefused("points", 2, x -> x.points(2));
        isRefused("pointAt", 2, x -> x.pointAt(2, 0));
        isRefused("put", 2, x -> x.put(4, 0, 1));
        isRefused("turnInto", 2, x -> x.turnInto(0, 2, LISTED));
        isRefused("tell", 2, x -> x.tell(0, 2, 3));
        isRefused("read, packed", 2, x -> x.read(2, 0, 1));
        isRefused("read, listed", 2, x -> x.read(0, 4, 1));
        isRefused("join, packed and listed", 2, x -> x.join(0, 6, 4));
        isRefused("join, bytes and packed", 2, x -> x.join(0, 2, 6));
        isRefused("copy, listed", 2, x -> x.copy(4, 0, 4, 1, 1));
        isRefused("copy, packed and listed", 2, x -> x.copy(0, 0, 4, 0, 1));
        isRefused("copy, packed and bytes", 2, x -> x.copy(0, 0, 2, 0, 1));
        isRefused("compare, bytes and packed", 2, x -> x.compare(2, 0, 0));
        isRefused("compare, listed and bytes", 2, x -> x.compare(4, 2, 1));
        isRefused("change", 2, x -> x.change(0, 2, 0));
        isRefused("keep, listed", 2, x -> x.keep(4));
        isRefused("keep, bytes", 2, x -> x.keep(2));
    }

    @Says(promise = 0, words = "3 there is no such ITEM;")
    static void whereThereIsNoSuchItem() {
        isRefused("at", 3, x -> x.at(0, 4));
        isRefused("pointAt", 3, x -> x.pointAt(0, 3));
        isRefused("put", 3, x -> x.put(0, 4, 1));
        isRefused("put below 0", 3, x -> x.put(2, -1, 1));
        isRefused("cut", 3, x -> x.cut(6, 0, 3, 2));
        isRefused("copy, i", 3, x -> x.copy(0, 3, 9, 0, 2));
        isRefused("copy, j", 3, x -> x.copy(0, 0, 9, 59, 2));
        isRefused("copy, n", 3, x -> x.copy(0, 0, 9, 0, -1));
    }

    @Says(promise = 0, words = "4 a number of ITEMS below 0;")
    static void whereTheNumberIsBelowZero() {
        isRefused("cut", 4, x -> x.cut(6, 0, 0, -1));
        isRefused("cut, the least", 4, x -> x.cut(0, 0, 0, LEAST));
    }

    @Says(promise = 0, words = "5 BROKEN (place() tells);")
    static void whereItIsBroken() {
        isRefused("tell, form 0", 5, x -> x.tell(0, 6, 0));
        isRefused("tell, form 3", 5, x -> x.tell(0, 9, 3));
        isRefused("read, form 0", 5, x -> x.read(0, 2, 0));
        isRefused("read, form 1", 5, x -> x.read(5, 5, 1));
        isRefused("read, form 2", 5, x -> x.read(0, 5, 2));
        CharRows x = made();
        brokenAt(x, "tell(0, 9, 3)", x.tell(0, 9, 3), 0);
        brokenAt(x, "read(0, 5, 2)", x.read(0, 5, 2), 60);
    }

    @Says(promise = 0, words = "6 too many ITEMS;")
    static void whereTheyAreTooMany() {
        isRefused("point", 6, x -> x.point(97));
        isRefused("point of a pair", 6, x -> x.point(65536));
        isRefused("unit", 6, x -> x.unit(97));
        isRefused("turnInto", 6, x -> x.turnInto(0, 4, PACKED));
        isRefused("turnInto, itself", 6, x -> x.turnInto(4, 4, PACKED));
        isRefused("read, form 0", 6, x -> x.read(0, 5, 0));
        isRefused("read, form 3", 6, x -> x.read(5, 5, 3));
        isRefused("join, packed", 6, x -> x.join(0, 9, 6));
        isRefused("join, listed", 6, x -> x.join(4, 4, 4));
    }

    @Says(promise = 0, words = "7 a PAIR would be parted.")
    static void whereAPairWouldBeParted() {
        isRefused("cut, low first", 7, x -> x.cut(6, 0, 2, 2));
        isRefused("cut, high last", 7, x -> x.cut(0, 0, 0, 2));
    }

    @Says(promise = 0, words = "A call with a CODE above 0 answers 0 (NONE, where told)")
    static void whereNoneIsTold() {
        isRefused("find, a is nothing", 1, NONE, x -> x.find(3, 0, 0));
        isRefused("find, b is nothing", 1, NONE, x -> x.find(0, 3, 0));
        isRefused("find, listed", 2, NONE, x -> x.find(0, 4, 0));
        isRefused("find, bytes", 2, NONE, x -> x.find(2, 0, 0));
    }

    @Says(promise = 0, words = "changes nothing but CODE and, with 5, the place.")
    static void thePlaceStaysWithEveryOtherCode() {
        CharRows x = made();
        due("place()", x.place(), 1);
        Call[] calls = {
            y -> y.length(3), y -> y.keep(2), y -> y.at(0, 4), y -> y.cut(6, 0, 0, -1), y -> y.read(0, 5, 0),
            y -> y.cut(6, 0, 2, 1), y -> y.length(0),
        };
        int[] codes = {1, 2, 3, 4, 6, 7, 0};
        for (int k = 0; k < codes.length; k++) {
            calls[k].on(x);
            due("code()", x.code(), codes[k]);
            due("place() with code " + codes[k], x.place(), 1);
        }
    }

    /** Each call is given what is none beside texts that are nothing, so that another CODE would be due, too. */
    private static void isOutside(String what, int[] wrongs, WrongCall call) {
        CharRows twin = made();
        String all = look(twin);
        for (int none : wrongs) {
            CharRows x = made();
            refused(x, "cut", x.cut(6, 0, 2, 1), 7);
            due(what + " with " + none, call.on(x, none), OUT);
            due("code() after " + what, x.code(), 7);
            due("place() after " + what, x.place(), 1);
            due("all after " + what + " with " + none, look(x), all);
        }
    }

    private static void isOutside(String what, WrongCall call) {
        isOutside(what, NO_TEXTS, call);
    }

    @Says(promise = 0, words = "Calls that are given a TEXT, POINT, UNIT, FORM, WAY that is none answer OUTSIDE, ahead of all; CODE stays then.")
    static void aTextThatIsNone() {
        isOutside("lay, t", (x, none) -> x.lay(none, 0));
        isOutside("share, t", (x, none) -> x.share(none, 0));
        isOutside("share, other", (x, none) -> x.share(0, none));
        isOutside("nothing", (x, none) -> x.nothing(none));
        isOutside("sort", (x, none) -> x.sort(none));
        isOutside("length", (x, none) -> x.length(none));
        isOutside("points", (x, none) -> x.points(none));
        isOutside("at", (x, none) -> x.at(none, -1));
        isOutside("pointAt", (x, none) -> x.pointAt(none, -1));
        isOutside("put", (x, none) -> x.put(none, -1, 1));
        isOutside("keep", (x, none) -> x.keep(none));
        isOutside("same, a", (x, none) -> x.same(none, 0));
        isOutside("same, b", (x, none) -> x.same(0, none));
        isOutside("same, both", (x, none) -> x.same(none, none));
    }

    @Says(promise = 0, words = "Calls that are given a TEXT .. that is none answer OUTSIDE, ahead of all; CODE stays then.")
    static void aTextThatIsNoneBesideOneThatIsNothing() {
        isOutside("turnInto, t", (x, none) -> x.turnInto(none, 3, 0));
        isOutside("turnInto, other", (x, none) -> x.turnInto(0, none, 0));
        isOutside("tell, t", (x, none) -> x.tell(none, 3, 0));
        isOutside("tell, other", (x, none) -> x.tell(0, none, 0));
        isOutside("read, t", (x, none) -> x.read(none, 3, 0));
        isOutside("read, bytes", (x, none) -> x.read(0, none, 0));
        isOutside("cut, t", (x, none) -> x.cut(none, 3, 0, -1));
        isOutside("cut, other", (x, none) -> x.cut(0, none, 0, -1));
        isOutside("join, t", (x, none) -> x.join(none, 3, 0));
        isOutside("join, a", (x, none) -> x.join(0, none, 3));
        isOutside("join, b", (x, none) -> x.join(0, 3, none));
        isOutside("back, t", (x, none) -> x.back(none, 3));
        isOutside("back, other", (x, none) -> x.back(0, none));
        isOutside("copy, x", (x, none) -> x.copy(none, -1, 3, 0, 0));
        isOutside("copy, y", (x, none) -> x.copy(3, -1, none, 0, 0));
        isOutside("find, a", (x, none) -> x.find(none, 3, 0));
        isOutside("find, b", (x, none) -> x.find(3, none, 0));
        isOutside("compare, a", (x, none) -> x.compare(none, 3, 0));
        isOutside("compare, b", (x, none) -> x.compare(3, none, 0));
        isOutside("change, t", (x, none) -> x.change(none, 3, 0));
        isOutside("change, other", (x, none) -> x.change(0, none, 0));
    }

    @Says(promise = 0, words = "Calls that are given a .. POINT, UNIT .. that is none answer OUTSIDE, ahead of all; CODE stays then.")
    static void aPointOrUnitThatIsNoneAndTheDraftIsFull() {
        isOutside("point", NO_POINTS, (x, none) -> x.point(none));
        isOutside("kind", NO_POINTS, (x, none) -> x.kind(none));
        isOutside("unit", NO_UNITS, (x, none) -> x.unit(none));
    }

    @Says(promise = 0, words = "Calls that are given a .. FORM, WAY that is none answer OUTSIDE, ahead of all; CODE stays then.")
    static void aFormOrWayThatIsNone() {
        isOutside("tell", NO_FORMS, (x, none) -> x.tell(0, 3, none));
        isOutside("read", NO_FORMS, (x, none) -> x.read(0, 3, none));
        isOutside("turnInto", NO_WAYS, (x, none) -> x.turnInto(0, 3, none));
        isOutside("compare", NO_WAYS, (x, none) -> x.compare(3, 0, none));
        isOutside("change", NO_WAYS, (x, none) -> x.change(0, 3, none));
        isOutside("lay", NO_SORTS, (x, none) -> x.lay(0, none));
    }

    @Says(promise = 0, words = "that is none answer OUTSIDE")
    static void numbersAtTheBoundsAreNotOutside() {
        CharRows x = new CharRows();
        drafts(x, 65);
        for (int t = 0; t < 10; t += 9) {
            for (int way = 0; way < 2; way++) {
                took(x, "lay", x.lay(t, way), 1);
                took(x, "turnInto", x.turnInto(t, t, way), 1);
                took(x, "compare", x.compare(t, t, way), 0);
                took(x, "change", x.change(t, t, way), 1);
            }
            took(x, "lay as bytes", x.lay(t, BYTES), 1);
            took(x, "read, form 0", x.read(t, t, 0), 1);
            took(x, "tell, form 3", x.tell(t, t, 3), 1);
            took(x, "read, form 3", x.read(t, t, 3), 1);
            took(x, "tell, form 0", x.tell(t, t, 0), 1);
            took(x, "cut", x.cut(t, t, 0, 1), 1);
            took(x, "join", x.join(t, t, t), 2);
            took(x, "back", x.back(t, t), 2);
            took(x, "copy", x.copy(t, 0, t, 0, 2), 2);
            took(x, "find", x.find(t, t, 0), 0);
            took(x, "length", x.length(t), 2);
            took(x, "put", x.put(t, 1, 66), 65);
            took(x, "at", x.at(t, 1), 66);
            due("share", x.share(t, t), BYTES);
            due("same", x.same(t, t), 1);
            took(x, "lay", x.lay(t, PACKED), 1);
            took(x, "points", x.points(t), 1);
            took(x, "pointAt", x.pointAt(t, 0), 65);
            took(x, "keep", x.keep(t), 0);
            due("nothing", x.nothing(t), PACKED);
        }
    }

    public static void main(String[] args) {
        runAll(RefusedTest.class);
    }
}
