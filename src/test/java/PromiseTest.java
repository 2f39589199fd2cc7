/** Each promise by its number: ordinary inputs, the edges that the document names, wrong inputs. */
public final class PromiseTest {
    private static final int OUT = -2000000001;
    private static final int NONE = -1;
    private static final int[] NO_TEXTS = {-1, 10, Integer.MIN_VALUE, Integer.MAX_VALUE};
    private static int wrong = 0;
    private static int promise = 0;

    private static void due(String what, int got, int want) {
        if (got != want) {
            wrong++;
            System.out.println("promise " + promise + ": " + what + " answered " + got + ", due is " + want);
        }
    }

    private static void refused(CharRows x, String what, int got, int code) {
        due(what, got, 0);
        due("code() after " + what, x.code(), code);
    }

    private static void took(CharRows x, String what, int got, int want) {
        due(what, got, want);
        due("code() after " + what, x.code(), 0);
    }

    private static void lays(CharRows x, int t, int sort, int... units) {
        x.fresh();
        for (int u : units) {
            x.unit(u);
        }
        x.lay(t, sort);
        x.fresh();
    }

    private static void laysMany(CharRows x, int t, int sort, int n, int unit) {
        int[] units = new int[n];
        java.util.Arrays.fill(units, unit);
        lays(x, t, sort, units);
    }

    private static void holds(CharRows x, int t, int sort, int... items) {
        due("sort(" + t + ")", x.sort(t), sort);
        due("length(" + t + ")", x.length(t), items.length);
        for (int k = 0; k < items.length; k++) {
            due("at(" + t + ", " + k + ")", x.at(t, k), items[k]);
        }
    }

    /** 60 times point 65536, listed: the text that has the most units. */
    private static void laysGreatest(CharRows x, int t) {
        x.fresh();
        for (int k = 0; k < 30; k++) {
            x.point(65536);
        }
        x.lay(t, 1);
        x.join(t, t, t);
        x.fresh();
    }

    private static void aNewObject() {
        CharRows x = new CharRows();
        due("code()", x.code(), 0);
        due("place()", x.place(), NONE);
        due("kept()", x.kept(), 0);
        due("fresh()", x.fresh(), 0);
        for (int t = 0; t < 10; t++) {
            due("sort", x.sort(t), NONE);
        }
    }

    private static void code() {
        CharRows x = new CharRows();
        refused(x, "length(0)", x.length(0), 1);
        x.fresh();
        x.share(1, 0);
        x.nothing(0);
        x.sort(0);
        x.kept();
        x.same(0, 1);
        x.kind(65);
        x.place();
        due("code() stays", x.code(), 1);
        x.length(10);
        x.point(-1);
        x.unit(65536);
        x.lay(0, 3);
        due("code() stays with OUTSIDE", x.code(), 1);
        x.lay(0, 0);
        due("code() after lay", x.code(), 0);
        x.at(0, 0);
        due("code() of none such", x.code(), 3);
        x.unit(1);
        due("code() after unit", x.code(), 0);
    }

    private static void place() {
        CharRows x = new CharRows();
        lays(x, 0, 0, 97, 55296);
        refused(x, "tell", x.tell(1, 0, 0), 5);
        due("place()", x.place(), 1);
        lays(x, 0, 2, 97, 97, 255);
        due("place() stays", x.place(), 1);
        refused(x, "read", x.read(1, 0, 0), 5);
        due("place()", x.place(), 2);
        x.length(9);
        x.length(0);
        x.read(10, 0, 0);
        due("place() stays", x.place(), 2);
    }

    private static void point() {
        CharRows x = new CharRows();
        took(x, "point(0)", x.point(0), 1);
        took(x, "point(65535)", x.point(65535), 2);
        took(x, "point(65536)", x.point(65536), 4);
        took(x, "point(1114111)", x.point(1114111), 6);
        took(x, "point(56319)", x.point(56319), 7);
        due("point(-1)", x.point(-1), OUT);
        due("point(1114112)", x.point(1114112), OUT);
        x.lay(0, 0);
        holds(x, 0, 0, 0, 65535, 55296, 56320, 56319, 57343, 56319);
        x.fresh();
        for (int k = 0; k < 59; k++) {
            x.point(k);
        }
        refused(x, "point(65536) at 59", x.point(65536), 6);
        took(x, "point(97) at 59", x.point(97), 60);
        refused(x, "point(97) at 60", x.point(97), 6);
        due("fresh()", x.fresh(), 60);
        for (int k = 0; k < 58; k++) {
            x.point(k);
        }
        took(x, "point(65536) at 58", x.point(65536), 60);
    }

    private static void unit() {
        CharRows x = new CharRows();
        took(x, "unit(0)", x.unit(0), 1);
        took(x, "unit(65535)", x.unit(65535), 2);
        due("unit(-1)", x.unit(-1), OUT);
        due("unit(65536)", x.unit(65536), OUT);
        for (int k = 2; k < 60; k++) {
            took(x, "unit", x.unit(k), k + 1);
        }
        refused(x, "unit at 60", x.unit(1), 6);
        due("unit(-1) at 60", x.unit(-1), OUT);
        due("code() stays", x.code(), 6);
        due("lay", x.lay(0, 0), 60);
        due("at(0, 59)", x.at(0, 59), 59);
    }

    private static void fresh() {
        CharRows x = new CharRows();
        x.unit(1);
        x.unit(2);
        due("fresh()", x.fresh(), 2);
        due("fresh() again", x.fresh(), 0);
        took(x, "unit(3)", x.unit(3), 1);
    }

    private static void lay() {
        CharRows x = new CharRows();
        x.unit(55296);
        x.unit(56320);
        x.unit(56321);
        x.unit(511);
        took(x, "lay(0, 0)", x.lay(0, 0), 4);
        took(x, "lay(1, 1)", x.lay(1, 1), 3);
        took(x, "lay(2, 2)", x.lay(2, 2), 4);
        holds(x, 0, 0, 55296, 56320, 56321, 511);
        holds(x, 1, 1, 65536, 56321, 511);
        holds(x, 2, 2, 0, 0, 1, 255);
        for (int t : NO_TEXTS) {
            due("lay of no text", x.lay(t, 0), OUT);
        }
        due("lay(0, -1)", x.lay(0, -1), OUT);
        due("lay(0, 3)", x.lay(0, 3), OUT);
        x.share(3, 0);
        x.lay(0, 0);
        due("a text laid is a new one", x.same(0, 3), 0);
        due("the draft stays", x.fresh(), 4);
        took(x, "lay of none", x.lay(0, 1), 0);
        holds(x, 0, 1);
    }

    private static void share() {
        CharRows x = new CharRows();
        due("share of nothing", x.share(0, 1), NONE);
        lays(x, 2, 2, 7);
        due("share(3, 2)", x.share(3, 2), 2);
        x.put(3, 0, 8);
        due("at(2, 0)", x.at(2, 0), 8);
        due("same(2, 3)", x.same(2, 3), 1);
        due("share(2, 9)", x.share(2, 9), NONE);
        due("sort(2)", x.sort(2), NONE);
        due("sort(3)", x.sort(3), 2);
        for (int t : NO_TEXTS) {
            due("share to no text", x.share(t, 0), OUT);
            due("share of no text", x.share(0, t), OUT);
        }
    }

    private static void nothing() {
        CharRows x = new CharRows();
        due("nothing(0)", x.nothing(0), NONE);
        lays(x, 0, 1, 7);
        x.share(1, 0);
        due("nothing(0)", x.nothing(0), 1);
        due("sort(0)", x.sort(0), NONE);
        due("sort(1)", x.sort(1), 1);
        for (int t : NO_TEXTS) {
            due("nothing of no text", x.nothing(t), OUT);
        }
    }

    private static void sort() {
        CharRows x = new CharRows();
        for (int s = 0; s < 3; s++) {
            due("sort of nothing", x.sort(s), NONE);
            x.lay(s, s);
            due("sort", x.sort(s), s);
        }
        for (int t : NO_TEXTS) {
            due("sort of no text", x.sort(t), OUT);
        }
    }

    private static void length() {
        CharRows x = new CharRows();
        refused(x, "length of nothing", x.length(0), 1);
        x.unit(55296);
        x.unit(56320);
        for (int s = 0; s < 3; s++) {
            x.lay(s, s);
            took(x, "length", x.length(s), s == 1 ? 1 : 2);
        }
        for (int t : NO_TEXTS) {
            due("length of no text", x.length(t), OUT);
        }
    }

    private static void points() {
        CharRows x = new CharRows();
        refused(x, "points of nothing", x.points(0), 1);
        lays(x, 0, 0, 55296, 55296, 56320, 56320, 97, 55296);
        took(x, "points(0)", x.points(0), 5);
        lays(x, 1, 1, 55296);
        lays(x, 2, 1, 56320);
        x.join(1, 1, 2);
        took(x, "points of listed halves", x.points(1), 2);
        lays(x, 2, 2, 1);
        refused(x, "points of bytes", x.points(2), 2);
        for (int t : NO_TEXTS) {
            due("points of no text", x.points(t), OUT);
        }
    }

    private static void at() {
        CharRows x = new CharRows();
        refused(x, "at of nothing", x.at(0, -1), 1);
        lays(x, 0, 0, 55296, 56320);
        took(x, "at(0, 0)", x.at(0, 0), 55296);
        took(x, "at(0, 1)", x.at(0, 1), 56320);
        for (int k : new int[] {-1, 2, Integer.MIN_VALUE, Integer.MAX_VALUE}) {
            refused(x, "at of no item", x.at(0, k), 3);
        }
        for (int t : NO_TEXTS) {
            due("at of no text", x.at(t, 0), OUT);
        }
    }

    private static void pointAt() {
        CharRows x = new CharRows();
        refused(x, "pointAt of nothing", x.pointAt(0, -1), 1);
        lays(x, 0, 0, 55296, 56319, 57343, 56320, 97);
        took(x, "pointAt(0, 0)", x.pointAt(0, 0), 55296);
        took(x, "pointAt(0, 1)", x.pointAt(0, 1), 1114111);
        took(x, "pointAt(0, 2)", x.pointAt(0, 2), 56320);
        took(x, "pointAt(0, 3)", x.pointAt(0, 3), 97);
        for (int k : new int[] {-1, 4, Integer.MIN_VALUE, Integer.MAX_VALUE}) {
            refused(x, "pointAt of no point", x.pointAt(0, k), 3);
        }
        x.turnInto(1, 0, 1);
        took(x, "pointAt(1, 1)", x.pointAt(1, 1), 1114111);
        refused(x, "pointAt(1, 4)", x.pointAt(1, 4), 3);
        lays(x, 2, 2, 1);
        refused(x, "pointAt of bytes", x.pointAt(2, 9), 2);
        for (int t : NO_TEXTS) {
            due("pointAt of no text", x.pointAt(t, 0), OUT);
        }
    }

    private static void put() {
        CharRows x = new CharRows();
        refused(x, "put of nothing", x.put(0, 0, 1), 1);
        lays(x, 0, 0, 5, 6);
        took(x, "put(0, 1, -1)", x.put(0, 1, -1), 6);
        took(x, "put(0, 1, 65536 + 9)", x.put(0, 1, 65536 + 9), 65535);
        due("at(0, 1)", x.at(0, 1), 9);
        lays(x, 1, 2, 5, 6);
        took(x, "put(1, 0, 511)", x.put(1, 0, 511), 5);
        took(x, "put(1, 0, -256)", x.put(1, 0, -256), 255);
        due("at(1, 0)", x.at(1, 0), 0);
        lays(x, 2, 1, 5, 6);
        refused(x, "put of listed", x.put(2, 9, 1), 2);
        due("at(2, 0)", x.at(2, 0), 5);
        for (int k : new int[] {-1, 2, Integer.MIN_VALUE, Integer.MAX_VALUE}) {
            refused(x, "put of no item", x.put(0, k, 1), 3);
        }
        for (int t : NO_TEXTS) {
            due("put of no text", x.put(t, 0, 1), OUT);
        }
        lays(x, 3, 0, 7);
        x.keep(3);
        x.nothing(3);
        lays(x, 4, 0, 7);
        x.keep(4);
        x.put(4, 0, 8);
        lays(x, 5, 0, 8);
        due("a kept one is changed where it is kept", x.keep(5), 0);
    }

    private static void turnInto() {
        CharRows x = new CharRows();
        refused(x, "turnInto of nothing", x.turnInto(0, 1, 0), 1);
        lays(x, 0, 0, 55296, 56320, 97);
        took(x, "packed into listed", x.turnInto(1, 0, 1), 2);
        holds(x, 1, 1, 65536, 97);
        took(x, "listed into packed", x.turnInto(2, 1, 0), 3);
        holds(x, 2, 0, 55296, 56320, 97);
        took(x, "packed into packed", x.turnInto(3, 0, 0), 3);
        holds(x, 3, 0, 55296, 56320, 97);
        due("is a new one", x.same(3, 0), 0);
        x.put(3, 0, 1);
        due("and has items of its own", x.at(0, 0), 55296);
        took(x, "itself", x.turnInto(0, 0, 1), 2);
        holds(x, 0, 1, 65536, 97);
        lays(x, 4, 2, 1);
        refused(x, "turnInto of bytes", x.turnInto(5, 4, 1), 2);
        laysGreatest(x, 6);
        refused(x, "too many units", x.turnInto(5, 6, 0), 6);
        due("sort(5)", x.sort(5), NONE);
        took(x, "listed into listed", x.turnInto(5, 6, 1), 60);
        x.cut(6, 6, 0, 30);
        took(x, "as many as may be", x.turnInto(5, 6, 0), 60);
        for (int t : NO_TEXTS) {
            due("turnInto to no text", x.turnInto(t, 0, 0), OUT);
            due("turnInto of no text", x.turnInto(0, t, 0), OUT);
        }
        due("turnInto(0, 0, -1)", x.turnInto(0, 0, -1), OUT);
        due("turnInto(0, 0, 2)", x.turnInto(0, 0, 2), OUT);
    }

    private static void tellsInManyBytes(int p) {
        if (p >= 55296 && p <= 57343) {
            return;
        }
        CharRows x = new CharRows();
        x.point(p);
        x.lay(0, p % 2);
        byte[] bytes = new String(new int[] {p}, 0, 1).getBytes(java.nio.charset.StandardCharsets.UTF_8);
        took(x, "tell of " + p, x.tell(1, 0, 0), bytes.length);
        for (int k = 0; k < bytes.length; k++) {
            due("byte " + k + " of " + p, x.at(1, k), bytes[k] & 255);
        }
        took(x, "read of " + p, x.read(2, 1, 0), p < 65536 ? 1 : 2);
        due("pointAt of " + p, x.pointAt(2, 0), p);
    }

    private static void tell() {
        CharRows x = new CharRows();
        refused(x, "tell of nothing", x.tell(0, 1, 0), 1);
        for (int p = 0; p <= 1114111; p += p < 4200 ? 1 : 61) {
            tellsInManyBytes(p);
        }
        for (int p = 4096; p < 1114112; p += 4096) {
            tellsInManyBytes(p - 1);
            tellsInManyBytes(p);
        }
        tellsInManyBytes(1114111);
        lays(x, 0, 0, 513, 55297, 56322, 56320);
        took(x, "form 1", x.tell(1, 0, 1), 8);
        holds(x, 1, 2, 2, 1, 216, 1, 220, 2, 220, 0);
        took(x, "form 2", x.tell(1, 0, 2), 8);
        holds(x, 1, 2, 1, 2, 1, 216, 2, 220, 0, 220);
        lays(x, 2, 1, 255, 65280, 65535);
        took(x, "form 2 of listed", x.tell(3, 2, 2), 6);
        holds(x, 3, 2, 255, 0, 0, 255, 255, 255);
        refused(x, "form 0 of a low one alone", x.tell(1, 0, 0), 5);
        due("place()", x.place(), 2);
        refused(x, "form 3 of great points", x.tell(1, 0, 3), 5);
        due("place()", x.place(), 0);
        due("text stays", x.length(1), 8);
        lays(x, 0, 1, 0, 255, 128);
        took(x, "form 3", x.tell(1, 0, 3), 3);
        holds(x, 1, 2, 0, 255, 128);
        lays(x, 0, 0, 55296, 56320, 255, 256);
        x.put(0, 0, 1);
        x.put(0, 1, 2);
        refused(x, "form 3 of 256", x.tell(1, 0, 3), 5);
        due("place()", x.place(), 3);
        refused(x, "tell of bytes", x.tell(1, 1, 0), 2);
        laysGreatest(x, 6);
        for (int form = 0; form < 3; form++) {
            took(x, "the most bytes", x.tell(7, 6, form), 240);
        }
        due("the last of them", x.at(7, 239), 220);
        for (int t : NO_TEXTS) {
            due("tell to no text", x.tell(t, 0, 0), OUT);
            due("tell of no text", x.tell(0, t, 0), OUT);
        }
        due("tell(0, 0, -1)", x.tell(0, 0, -1), OUT);
        due("tell(0, 0, 4)", x.tell(0, 0, 4), OUT);
    }

    private static void readsBroken(CharRows x, int place, int... bytes) {
        lays(x, 0, 2, bytes);
        refused(x, "read of " + java.util.Arrays.toString(bytes), x.read(1, 0, 0), 5);
        due("place of " + java.util.Arrays.toString(bytes), x.place(), place);
    }

    private static void read() {
        CharRows x = new CharRows();
        refused(x, "read of nothing", x.read(0, 1, 0), 1);
        lays(x, 0, 0, 65);
        refused(x, "read of packed", x.read(1, 0, 0), 2);
        lays(x, 0, 1, 65);
        refused(x, "read of listed", x.read(1, 0, 3), 2);
        readsBroken(x, 1, 65, 128);
        readsBroken(x, 1, 65, 193, 191);
        readsBroken(x, 2, 194, 128, 245, 128, 128, 128);
        readsBroken(x, 0, 255);
        readsBroken(x, 1, 65, 194);
        readsBroken(x, 0, 194, 127);
        readsBroken(x, 0, 194, 192);
        readsBroken(x, 0, 225, 128);
        readsBroken(x, 0, 225, 128, 65);
        readsBroken(x, 0, 224, 159, 191);
        readsBroken(x, 3, 224, 160, 128, 237, 160, 128);
        readsBroken(x, 0, 237, 191, 191);
        readsBroken(x, 0, 240, 143, 191, 191);
        readsBroken(x, 4, 240, 144, 128, 128, 244, 144, 128, 128);
        readsBroken(x, 0, 241, 128, 128);
        readsBroken(x, 0, 241, 128, 128, 200);
        due("sort(1)", x.sort(1), NONE);
        lays(x, 0, 2, 127, 194, 128, 223, 191, 224, 160, 128, 237, 159, 191, 238, 128, 128, 244, 143, 191, 191);
        took(x, "read", x.read(1, 0, 0), 8);
        holds(x, 1, 0, 127, 128, 2047, 2048, 55295, 57344, 56319, 57343);
        lays(x, 0, 2, 216, 0, 0, 65);
        took(x, "read form 1", x.read(1, 0, 1), 2);
        holds(x, 1, 0, 55296, 65);
        took(x, "read form 2", x.read(1, 0, 2), 2);
        holds(x, 1, 0, 216, 16640);
        took(x, "read form 3", x.read(1, 0, 3), 4);
        holds(x, 1, 0, 216, 0, 0, 65);
        lays(x, 0, 2, 1, 2, 3);
        refused(x, "odd, form 1", x.read(1, 0, 1), 5);
        due("place()", x.place(), 2);
        lays(x, 0, 2, 1);
        refused(x, "odd, form 2", x.read(1, 0, 2), 5);
        due("place()", x.place(), 0);
        readsTooMany();
        readsTooManyOrBroken();
        for (int t : NO_TEXTS) {
            due("read to no text", x.read(t, 0, 0), OUT);
            due("read of no text", x.read(0, t, 0), OUT);
        }
        due("read(0, 0, -1)", x.read(0, 0, -1), OUT);
        due("read(0, 0, 4)", x.read(0, 0, 4), OUT);
    }

    private static void readsTooMany() {
        CharRows x = new CharRows();
        laysMany(x, 0, 2, 60, 65);
        took(x, "60 units, form 0", x.read(9, 0, 0), 60);
        took(x, "60 units, form 3", x.read(9, 0, 3), 60);
        lays(x, 1, 2, 65);
        x.join(2, 0, 1);
        refused(x, "61 units, form 0", x.read(9, 2, 0), 6);
        refused(x, "61 units, form 3", x.read(9, 2, 3), 6);
        due("place()", x.place(), NONE);
        x.join(3, 0, 0);
        took(x, "60 units, form 1", x.read(9, 3, 1), 60);
        x.join(4, 3, 1);
        refused(x, "121 bytes, form 1", x.read(9, 4, 1), 5);
        due("place()", x.place(), 120);
        x.join(4, 4, 1);
        refused(x, "61 units, form 2", x.read(9, 4, 2), 6);
        laysGreatest(x, 5);
        x.tell(5, 5, 0);
        x.cut(6, 5, 0, 120);
        took(x, "30 pairs", x.read(9, 6, 0), 60);
        x.cut(6, 5, 0, 124);
        refused(x, "31 pairs", x.read(9, 6, 0), 6);
        due("text stays", x.length(9), 60);
    }

    /** Reads text 0, then these bytes behind it. */
    private static void readsBehind(CharRows x, int form, int code, int where, int... bytes) {
        lays(x, 1, 2, bytes);
        x.join(2, 0, 1);
        refused(x, x.length(0) + " bytes, then " + java.util.Arrays.toString(bytes) + ", form " + form,
            x.read(9, 2, form), code);
        due("place()", x.place(), where);
        due("sort(9)", x.sort(9), NONE);
    }

    private static void readsTooManyOrBroken() {
        CharRows x = new CharRows();
        laysMany(x, 0, 2, 60, 65);
        readsBehind(x, 0, 6, NONE, 65, 255);
        readsBehind(x, 0, 6, NONE, 194, 128, 194);
        readsBehind(x, 0, 6, NONE, 240, 144, 128, 128, 128);
        readsBehind(x, 0, 5, 60, 255);
        readsBehind(x, 0, 5, 60, 194);
        readsBehind(x, 0, 5, 60, 240, 144, 128, 65);
        readsBehind(x, 0, 6, 60, 65, 255);
        laysMany(x, 0, 2, 59, 65);
        readsBehind(x, 0, 6, 60, 240, 144, 128, 128, 255);
        readsBehind(x, 0, 5, 59, 240, 143, 128, 128);
        readsBehind(x, 0, 5, 60, 65, 255);
        readsBehind(x, 0, 5, 61, 194, 128, 255);
        laysMany(x, 0, 2, 60, 65);
        x.join(0, 0, 0);
        for (int form = 1; form <= 2; form++) {
            readsBehind(x, form, 5, 120, 255);
            readsBehind(x, form, 6, 120, 216, 216, 255);
        }
        x.join(0, 0, 0);
        x.put(0, 239, 255);
        refused(x, "239 units, then broken", x.read(9, 0, 0), 6);
        x.put(0, 59, 255);
        refused(x, "59 units, then broken", x.read(9, 0, 0), 5);
        due("place()", x.place(), 59);
    }

    private static void cut() {
        CharRows x = new CharRows();
        refused(x, "cut of nothing", x.cut(0, 1, -1, -1), 1);
        lays(x, 0, 0, 97, 55296, 56320, 98, 56320, 55296);
        refused(x, "below 0 ahead of no item", x.cut(1, 0, -1, -1), 4);
        refused(x, "from below 0", x.cut(1, 0, -1, 1), 3);
        refused(x, "from beyond", x.cut(1, 0, 7, 0), 3);
        refused(x, "to beyond", x.cut(1, 0, 5, 2), 3);
        refused(x, "far", x.cut(1, 0, 1, Integer.MAX_VALUE), 3);
        refused(x, "far", x.cut(1, 0, Integer.MAX_VALUE, Integer.MAX_VALUE), 3);
        refused(x, "low first", x.cut(1, 0, 2, 2), 7);
        refused(x, "high last", x.cut(1, 0, 0, 2), 7);
        refused(x, "high alone", x.cut(1, 0, 1, 1), 7);
        due("sort(1)", x.sort(1), NONE);
        took(x, "none within a pair", x.cut(1, 0, 2, 0), 0);
        holds(x, 1, 0);
        took(x, "none at the end", x.cut(1, 0, 6, 0), 0);
        took(x, "a pair", x.cut(1, 0, 1, 2), 2);
        holds(x, 1, 0, 55296, 56320);
        took(x, "low, high alone", x.cut(1, 0, 4, 2), 2);
        holds(x, 1, 0, 56320, 55296);
        took(x, "all", x.cut(1, 0, 0, 6), 6);
        due("all is a new one", x.same(0, 1), 0);
        lays(x, 2, 1, 55296);
        lays(x, 3, 1, 56320);
        x.join(2, 2, 3);
        took(x, "listed halves", x.cut(3, 2, 1, 1), 1);
        holds(x, 3, 1, 56320);
        lays(x, 4, 2, 1, 2, 3);
        took(x, "bytes, itself", x.cut(4, 4, 1, 2), 2);
        holds(x, 4, 2, 2, 3);
        for (int t : NO_TEXTS) {
            due("cut to no text", x.cut(t, 0, 0, 0), OUT);
            due("cut of no text", x.cut(0, t, 0, 0), OUT);
        }
    }

    private static void join() {
        CharRows x = new CharRows();
        refused(x, "join of nothing", x.join(0, 1, 2), 1);
        lays(x, 0, 0, 55296);
        lays(x, 1, 0, 56320, 97);
        refused(x, "join, second is nothing", x.join(2, 0, 9), 1);
        refused(x, "join, first is nothing", x.join(2, 9, 0), 1);
        took(x, "join", x.join(2, 0, 1), 3);
        holds(x, 2, 0, 55296, 56320, 97);
        due("points(2)", x.points(2), 2);
        lays(x, 3, 1, 5);
        lays(x, 4, 2, 5);
        refused(x, "packed and listed", x.join(5, 0, 3), 2);
        refused(x, "bytes and packed", x.join(5, 4, 0), 2);
        took(x, "itself", x.join(1, 1, 1), 4);
        holds(x, 1, 0, 56320, 97, 56320, 97);
        for (int sort = 0; sort < 2; sort++) {
            laysMany(x, 5, sort, 59, 7);
            lays(x, 6, sort, 8);
            lays(x, 7, sort, 8, 9);
            took(x, "60", x.join(8, 5, 6), 60);
            refused(x, "61", x.join(8, 5, 7), 6);
        }
        laysMany(x, 5, 2, 60, 7);
        x.join(5, 5, 5);
        took(x, "240 bytes", x.join(5, 5, 5), 240);
        lays(x, 6, 2, 8);
        refused(x, "241 bytes", x.join(6, 5, 6), 6);
        for (int t : NO_TEXTS) {
            due("join to no text", x.join(t, 0, 0), OUT);
            due("join of no text", x.join(0, t, 0), OUT);
            due("join of no text", x.join(0, 0, t), OUT);
        }
    }

    private static void back() {
        CharRows x = new CharRows();
        refused(x, "back of nothing", x.back(0, 1), 1);
        lays(x, 0, 0, 97, 55296, 56320, 56321, 55297);
        took(x, "packed", x.back(1, 0), 5);
        holds(x, 1, 0, 55297, 56321, 55296, 56320, 97);
        due("halves meet", x.points(1), 3);
        x.turnInto(0, 0, 1);
        took(x, "listed", x.back(1, 0), 4);
        holds(x, 1, 1, 55297, 56321, 65536, 97);
        lays(x, 2, 2, 1, 2, 3);
        took(x, "bytes, itself", x.back(2, 2), 3);
        holds(x, 2, 2, 3, 2, 1);
        for (int t : NO_TEXTS) {
            due("back to no text", x.back(t, 0), OUT);
            due("back of no text", x.back(0, t), OUT);
        }
    }

    private static void copy() {
        CharRows x = new CharRows();
        refused(x, "copy of nothing", x.copy(0, -1, 1, 0, 0), 1);
        lays(x, 0, 0, 1, 2, 3, 4, 5);
        lays(x, 1, 0, 6, 7);
        refused(x, "copy, second is nothing", x.copy(0, 0, 9, 0, 0), 1);
        refused(x, "copy, first is nothing", x.copy(9, 0, 0, 0, 0), 1);
        lays(x, 2, 1, 1, 2);
        lays(x, 3, 2, 1, 2);
        refused(x, "listed", x.copy(2, 0, 2, 0, 1), 2);
        refused(x, "listed and packed", x.copy(2, 0, 0, 0, 1), 2);
        refused(x, "packed and listed", x.copy(0, 0, 2, 0, 1), 2);
        refused(x, "unlike sorts, ahead of no item", x.copy(0, -1, 3, 0, 1), 2);
        refused(x, "i below 0", x.copy(0, -1, 1, 0, 1), 3);
        refused(x, "j below 0", x.copy(0, 0, 1, -1, 1), 3);
        refused(x, "n below 0", x.copy(0, 0, 1, 0, -1), 3);
        refused(x, "i beyond", x.copy(0, 6, 1, 0, 0), 3);
        refused(x, "j beyond", x.copy(0, 0, 1, 3, 0), 3);
        refused(x, "i + n beyond", x.copy(1, 1, 0, 0, 2), 3);
        refused(x, "j + n beyond", x.copy(0, 0, 1, 1, 2), 3);
        refused(x, "far", x.copy(0, 1, 1, 1, Integer.MAX_VALUE), 3);
        holds(x, 1, 0, 6, 7);
        took(x, "none at both ends", x.copy(0, 5, 1, 2, 0), 0);
        took(x, "to behind", x.copy(0, 0, 0, 1, 4), 4);
        holds(x, 0, 0, 1, 1, 2, 3, 4);
        took(x, "to ahead", x.copy(0, 2, 0, 1, 3), 3);
        holds(x, 0, 0, 1, 2, 3, 4, 4);
        took(x, "another one", x.copy(1, 0, 0, 3, 2), 2);
        holds(x, 0, 0, 1, 2, 3, 6, 7);
        holds(x, 1, 0, 6, 7);
        took(x, "bytes", x.copy(3, 1, 3, 0, 1), 1);
        holds(x, 3, 2, 2, 2);
        lays(x, 4, 0, 55296, 56320);
        took(x, "half a pair", x.copy(1, 0, 4, 0, 1), 1);
        holds(x, 4, 0, 6, 56320);
        for (int t : NO_TEXTS) {
            due("copy of no text", x.copy(t, 0, 0, 0, 0), OUT);
            due("copy to no text", x.copy(0, 0, t, 0, 0), OUT);
        }
    }

    private static void find() {
        CharRows x = new CharRows();
        due("find of nothing", x.find(0, 1, 0), NONE);
        due("code()", x.code(), 1);
        lays(x, 0, 0, 97, 98, 97, 98, 55296, 56320, 56320);
        due("find, b is nothing", x.find(0, 9, 0), NONE);
        due("code()", x.code(), 1);
        due("find, a is nothing", x.find(9, 0, 0), NONE);
        due("code()", x.code(), 1);
        lays(x, 1, 1, 97);
        due("unlike sorts", x.find(0, 1, 0), NONE);
        due("code()", x.code(), 2);
        lays(x, 2, 0, 97, 98);
        took(x, "from below 0", x.find(0, 2, Integer.MIN_VALUE), 0);
        took(x, "from 0", x.find(0, 2, 0), 0);
        took(x, "from 1", x.find(0, 2, 1), 2);
        took(x, "from 3", x.find(0, 2, 3), NONE);
        took(x, "from far", x.find(0, 2, Integer.MAX_VALUE), NONE);
        took(x, "longer", x.find(2, 0, 0), NONE);
        took(x, "itself", x.find(0, 0, 0), 0);
        lays(x, 2, 0, 56320);
        took(x, "low one alone", x.find(0, 2, 0), 6);
        lays(x, 2, 0, 98, 55296);
        took(x, "parted at its end", x.find(0, 2, 0), NONE);
        lays(x, 2, 0, 56320, 56320);
        took(x, "parted at its begin", x.find(0, 2, 0), NONE);
        lays(x, 2, 0);
        took(x, "empty, within a pair", x.find(0, 2, 5), 6);
        took(x, "empty, at the end", x.find(0, 2, 7), 7);
        took(x, "empty, beyond", x.find(0, 2, 8), NONE);
        lays(x, 3, 1, 55296);
        lays(x, 4, 1, 56320);
        x.join(5, 3, 4);
        took(x, "listed halves", x.find(5, 4, 0), 1);
        lays(x, 6, 2, 1, 2, 1);
        lays(x, 7, 2, 1);
        took(x, "bytes", x.find(6, 7, 1), 2);
        for (int t : NO_TEXTS) {
            due("find in no text", x.find(t, 0, 0), OUT);
            due("find of no text", x.find(0, t, 0), OUT);
        }
    }

    private static void compares(CharRows x, int a, int b, int way, int want) {
        took(x, "compare(" + a + ", " + b + ", " + way + ")", x.compare(a, b, way), want);
        took(x, "compare(" + b + ", " + a + ", " + way + ")", x.compare(b, a, way), -want);
    }

    private static void compare() {
        CharRows x = new CharRows();
        refused(x, "compare of nothing", x.compare(0, 1, 0), 1);
        lays(x, 0, 0, 97, 65535);
        refused(x, "b is nothing", x.compare(0, 9, 0), 1);
        refused(x, "a is nothing", x.compare(9, 0, 0), 1);
        lays(x, 1, 0, 97, 55296, 56320);
        compares(x, 0, 1, 0, 1);
        compares(x, 0, 1, 1, -1);
        x.turnInto(2, 1, 1);
        compares(x, 0, 2, 0, 1);
        compares(x, 0, 2, 1, -1);
        compares(x, 1, 2, 0, 0);
        compares(x, 1, 2, 1, 0);
        x.turnInto(3, 0, 1);
        compares(x, 3, 2, 0, 1);
        compares(x, 3, 2, 1, -1);
        lays(x, 4, 0, 97);
        compares(x, 4, 0, 0, -1);
        compares(x, 4, 2, 1, -1);
        lays(x, 5, 1, 97, 55296);
        lays(x, 6, 1, 56320);
        x.join(5, 5, 6);
        compares(x, 5, 1, 0, 0);
        compares(x, 5, 1, 1, -1);
        compares(x, 5, 2, 0, 0);
        compares(x, 5, 2, 1, -1);
        lays(x, 7, 0, 98, 1);
        compares(x, 7, 0, 0, 1);
        compares(x, 7, 2, 1, 1);
        lays(x, 7, 2, 1, 200);
        lays(x, 8, 2, 1, 100, 100);
        for (int way = 0; way < 2; way++) {
            compares(x, 7, 8, way, 1);
            compares(x, 7, 7, way, 0);
            refused(x, "bytes and packed", x.compare(7, 0, way), 2);
            refused(x, "listed and bytes", x.compare(2, 7, way), 2);
        }
        for (int t : NO_TEXTS) {
            due("compare of no text", x.compare(t, 0, 0), OUT);
            due("compare with no text", x.compare(0, t, 0), OUT);
        }
        due("compare(0, 0, -1)", x.compare(0, 0, -1), OUT);
        due("compare(0, 0, 2)", x.compare(0, 0, 2), OUT);
    }

    private static void change() {
        CharRows x = new CharRows();
        refused(x, "change of nothing", x.change(0, 1, 0), 1);
        lays(x, 0, 0, 96, 97, 122, 123, 223, 224, 247, 254, 255, 55296, 56417, 376, 65);
        took(x, "greater", x.change(1, 0, 0), 13);
        holds(x, 1, 0, 96, 65, 90, 123, 223, 192, 247, 222, 376, 55296, 56417, 376, 65);
        lays(x, 0, 1, 64, 65, 90, 91, 191, 192, 215, 222, 223, 376, 377, 255, 55296, 56385, 97);
        took(x, "lesser", x.change(0, 0, 1), 14);
        holds(x, 0, 1, 64, 97, 122, 91, 191, 224, 215, 254, 223, 255, 377, 255, 65601, 97);
        lays(x, 2, 0, 97);
        x.share(3, 2);
        x.change(2, 2, 0);
        due("the other one stays", x.at(3, 0), 97);
        lays(x, 2, 2, 97);
        refused(x, "change of bytes", x.change(4, 2, 0), 2);
        for (int t : NO_TEXTS) {
            due("change to no text", x.change(t, 0, 0), OUT);
            due("change of no text", x.change(0, t, 0), OUT);
        }
        due("change(0, 0, -1)", x.change(0, 0, -1), OUT);
        due("change(0, 0, 2)", x.change(0, 0, 2), OUT);
    }

    private static void keep() {
        CharRows x = new CharRows();
        refused(x, "keep of nothing", x.keep(0), 1);
        lays(x, 0, 1, 1);
        refused(x, "keep of listed", x.keep(0), 2);
        lays(x, 0, 2, 1);
        refused(x, "keep of bytes", x.keep(0), 2);
        for (int k = 0; k < 12; k++) {
            lays(x, 0, 0, 5, k);
            took(x, "keep", x.keep(0), k);
        }
        lays(x, 0, 0, 5);
        refused(x, "a 13th", x.keep(0), 6);
        due("a 13th stays", x.at(0, 0), 5);
        lays(x, 1, 0, 5, 11);
        lays(x, 2, 0, 5, 11);
        x.share(3, 2);
        took(x, "like the last", x.keep(1), 11);
        took(x, "like the last", x.keep(2), 11);
        due("are one", x.same(1, 2), 1);
        due("what was shared stays itself", x.same(2, 3), 0);
        lays(x, 4, 0, 5, 3);
        x.keep(4);
        x.put(4, 1, 11);
        took(x, "the first of two like it", x.keep(1), 3);
        due("is that one", x.same(1, 4), 1);
        lays(x, 5, 0, 5, 3);
        refused(x, "none is as it was", x.keep(5), 6);
        for (int t : NO_TEXTS) {
            due("keep of no text", x.keep(t), OUT);
        }
        x = new CharRows();
        lays(x, 0, 0, 5, 6);
        x.keep(0);
        lays(x, 0, 0, 6, 6);
        took(x, "another one by its first unit", x.keep(0), 1);
        lays(x, 0, 0);
        took(x, "an empty one", x.keep(0), 2);
        lays(x, 1, 0);
        took(x, "an empty one again", x.keep(1), 2);
        due("empty ones are one", x.same(0, 1), 1);
    }

    private static void kept() {
        CharRows x = new CharRows();
        lays(x, 0, 0, 5);
        lays(x, 1, 0, 5);
        x.keep(0);
        due("kept()", x.kept(), 1);
        x.keep(1);
        due("kept() again", x.kept(), 1);
        lays(x, 1, 0);
        x.keep(1);
        x.nothing(0);
        x.nothing(1);
        due("kept() of two", x.kept(), 2);
    }

    private static void same() {
        CharRows x = new CharRows();
        due("both nothing", x.same(0, 1), 1);
        lays(x, 0, 0, 5);
        lays(x, 1, 0, 5);
        due("one nothing", x.same(0, 2), 0);
        due("equal ones", x.same(0, 1), 0);
        due("itself", x.same(0, 0), 1);
        x.share(2, 0);
        due("shared", x.same(0, 2), 1);
        for (int t : NO_TEXTS) {
            due("same of no text", x.same(t, 0), OUT);
            due("same with no text", x.same(0, t), OUT);
        }
    }

    private static int kindDue(int p) {
        if (p >= 0xd800 && p <= 0xdbff) {
            return 0;
        }
        if (p >= 0xdc00 && p <= 0xdfff) {
            return 1;
        }
        if (p >= '0' && p <= '9') {
            return 2;
        }
        boolean latin = p < 256 && p != 0xb5 && p != 0xdf && Character.isLetter(p) && p != 0xaa && p != 0xba;
        if (latin || p == 376) {
            return 3;
        }
        if (p >= 9 && p <= 13 || p == ' ' || p == 0xa0) {
            return 4;
        }
        return Character.isSupplementaryCodePoint(p) ? 5 : 6;
    }

    private static void kind() {
        for (int p = 0; p < 1200; p++) {
            due("kind(" + p + ")", new CharRows().kind(p), kindDue(p));
        }
        for (int p = 55290; p <= 1114111; p += p < 65540 ? 1 : 997) {
            due("kind(" + p + ")", new CharRows().kind(p), kindDue(p));
        }
        CharRows x = new CharRows();
        due("kind(1114111)", x.kind(1114111), 5);
        due("kind(-1)", x.kind(-1), OUT);
        due("kind(1114112)", x.kind(1114112), OUT);
        due("code()", x.code(), 0);
    }

    private static final Runnable[] PROMISES = {
        PromiseTest::aNewObject, PromiseTest::code, PromiseTest::place, PromiseTest::point, PromiseTest::unit,
        PromiseTest::fresh, PromiseTest::lay, PromiseTest::share, PromiseTest::nothing, PromiseTest::sort,
        PromiseTest::length, PromiseTest::points, PromiseTest::at, PromiseTest::pointAt, PromiseTest::put,
        PromiseTest::turnInto, PromiseTest::tell, PromiseTest::read, PromiseTest::cut, PromiseTest::join,
        PromiseTest::back, PromiseTest::copy, PromiseTest::find, PromiseTest::compare, PromiseTest::change,
        PromiseTest::keep, PromiseTest::kept, PromiseTest::same, PromiseTest::kind,
    };

    public static void main(String[] args) {
        for (Runnable each : PROMISES) {
            promise++;
            each.run();
        }
        System.out.println(wrong == 0 ? promise + " promises hold" : wrong + " answers are not as due");
        if (wrong != 0) {
            System.exit(1);
        }
    }
}
