import java.util.Arrays;

/**
 * Every point there is, and every two bytes that a point could begin with, against tables that are
 * filled from the document's own numbers.
 */
public final class EveryPointTest {
    private static final int LAST_POINT = 1114111;
    private static final int ABSENT = -1;
    private static final int[] LATER_BYTES = {ABSENT, 127, 128, 191, 192};
    // A point takes up to 40 calls and a row of bytes up to 10, with 9 ahead of the first; 512 are the most.
    private static final int POINTS_AN_OBJECT = 12;
    private static final int ROWS_AN_OBJECT = 50;

    private static final int[] KINDS = new int[LAST_POINT + 1];
    private static final int[][] CASES = new int[2][LAST_POINT + 1];

    private static int wrong = 0;
    private static CharRows x;
    private static int left = 0;

    private static void due(int got, int want, String what, int... given) {
        if (got != want) {
            wrong++;
            if (wrong <= 20) {
                System.out.println(what + " of " + Arrays.toString(given) + " answered " + got + ", due is " + want);
            }
        }
    }

    private static void kindIs(int kind, int first, int last) {
        Arrays.fill(KINDS, first, last + 1, kind);
    }

    private static void fillKinds() {
        // The first that fits counts, so it is filled in last.
        kindIs(6, 0, LAST_POINT);
        kindIs(5, 65536, LAST_POINT);
        kindIs(4, 9, 13);
        kindIs(4, 32, 32);
        kindIs(4, 160, 160);
        for (int p = 0; p <= LAST_POINT; p++) {
            if (CASES[0][p] != p || CASES[1][p] != p) {
                kindIs(3, p, p);
            }
        }
        kindIs(2, 48, 57);
        kindIs(1, 56320, 57343);
        kindIs(0, 55296, 56319);
    }

    private static void caseIs(int way, int first, int last, int more) {
        for (int p = first; p <= last; p++) {
            CASES[way][p] = p + more;
        }
    }

    private static void fillCases() {
        caseIs(0, 0, LAST_POINT, 0);
        caseIs(0, 97, 122, -32);
        caseIs(0, 224, 254, -32);
        caseIs(0, 247, 247, 0);
        caseIs(0, 255, 255, 376 - 255);
        caseIs(1, 0, LAST_POINT, 0);
        caseIs(1, 65, 90, 32);
        caseIs(1, 192, 222, 32);
        caseIs(1, 215, 215, 0);
        caseIs(1, 376, 376, 255 - 376);
    }

    private static int[] units(int p) {
        int v = p - 65536;
        return v < 0 ? new int[] {p} : new int[] {55296 + v / 1024, 56320 + v % 1024};
    }

    private static int[] manyBytes(int p) {
        if (p < 128) {
            return new int[] {p};
        }
        if (p < 2048) {
            return new int[] {192 + p / 64, 128 + p % 64};
        }
        if (p < 65536) {
            return new int[] {224 + p / 4096, 128 + p / 64 % 64, 128 + p % 64};
        }
        return new int[] {240 + p / 262144, 128 + p / 4096 % 64, 128 + p / 64 % 64, 128 + p % 64};
    }

    private static int[] bytes(int p, int form) {
        if (form == 0) {
            return manyBytes(p);
        }
        if (form == 3) {
            return new int[] {p};
        }
        int[] units = units(p);
        int[] told = new int[units.length * 2];
        for (int k = 0; k < units.length; k++) {
            told[2 * k + form - 1] = units[k] / 256;
            told[2 * k + 2 - form] = units[k] % 256;
        }
        return told;
    }

    private static boolean isHalf(int p) {
        return p >= 55296 && p <= 57343;
    }

    private static void takeNewObject(int uses) {
        if (left == 0) {
            x = new CharRows();
            left = uses;
        }
        left--;
    }

    private static void holds(int t, int[] items, String what, int p) {
        due(x.length(t), items.length, what + ": length", p);
        for (int k = 0; k < items.length; k++) {
            due(x.at(t, k), items[k], what + ": item", p, k);
        }
    }

    private static void isToldAndReadBack(int p, int form) {
        if (form == 0 && isHalf(p) || form == 3 && p > 255) {
            due(x.tell(2, p % 2, form), 0, "tell", p, form);
            due(x.code(), 5, "code", p, form);
            return;
        }
        int[] told = bytes(p, form);
        due(x.tell(2, p % 2, form), told.length, "tell", p, form);
        holds(2, told, "told", p);
        due(x.read(3, 2, form), units(p).length, "read", p, form);
        due(x.pointAt(3, 0), p, "the point read", p, form);
    }

    private static void isAsDue(int p) {
        takeNewObject(POINTS_AN_OBJECT);
        due(x.kind(p), KINDS[p], "kind", p);
        x.fresh();
        due(x.point(p), units(p).length, "point", p);
        x.lay(0, 0);
        x.lay(1, 1);
        holds(0, units(p), "packed", p);
        holds(1, new int[] {p}, "listed", p);
        for (int way = 0; way < 2; way++) {
            x.change(3, p % 2, way);
            due(x.pointAt(3, 0), CASES[way][p], "change", p, way);
        }
        for (int form = 0; form < 4; form++) {
            isToldAndReadBack(p, form);
        }
    }

    /** The point whose bytes in form 0 stand at place k, or -1. */
    private static int pointAt(int[] bytes, int k) {
        int[] offsets = {0, 192, 224, 240};
        for (int more = 0; more < 4 && k + more < bytes.length; more++) {
            int p = bytes[k] - offsets[more];
            for (int m = 1; m <= more; m++) {
                p = p * 64 + bytes[k + m] - 128;
            }
            if (p >= 0 && p <= LAST_POINT && !isHalf(p)
                    && Arrays.equals(manyBytes(p), Arrays.copyOfRange(bytes, k, k + more + 1))) {
                return p;
            }
        }
        return -1;
    }

    private static void laysRows() {
        x.fresh();
        for (int n = 1; n <= 4; n++) {
            x.unit(0);
            x.lay(n, 2);
        }
    }

    private static void isReadAsDue(int... bytes) {
        boolean isNew = left == 0;
        takeNewObject(ROWS_AN_OBJECT);
        if (isNew) {
            laysRows();
        }
        for (int k = 0; k < bytes.length; k++) {
            x.put(bytes.length, k, bytes[k]);
        }
        int[] units = {};
        int k = 0;
        while (k < bytes.length) {
            int p = pointAt(bytes, k);
            if (p < 0) {
                due(x.read(0, bytes.length, 0), 0, "read", bytes);
                due(x.code(), 5, "code", bytes);
                due(x.place(), k, "place", bytes);
                return;
            }
            int[] more = units(p);
            units = Arrays.copyOf(units, units.length + more.length);
            System.arraycopy(more, 0, units, units.length - more.length, more.length);
            k += manyBytes(p).length;
        }
        due(x.read(0, bytes.length, 0), units.length, "read", bytes);
        due(x.code(), 0, "code", bytes);
        for (int u = 0; u < units.length; u++) {
            due(x.at(0, u), units[u], "a unit read", bytes);
        }
    }

    private static void isReadWithLaterBytes(int first, int second) {
        for (int third : LATER_BYTES) {
            if (third == ABSENT) {
                isReadAsDue(first, second);
                continue;
            }
            for (int fourth : LATER_BYTES) {
                if (fourth == ABSENT) {
                    isReadAsDue(first, second, third);
                } else {
                    isReadAsDue(first, second, third, fourth);
                }
            }
        }
    }

    public static void main(String[] args) {
        fillCases();
        fillKinds();
        for (int p = 0; p <= LAST_POINT; p++) {
            isAsDue(p);
        }
        left = 0;
        for (int first = 0; first < 256; first++) {
            isReadAsDue(first);
            for (int second = 0; second < 256; second++) {
                isReadWithLaterBytes(first, second);
            }
        }
        System.out.println(wrong == 0 ? "every point is as due" : wrong + " answers are not as due");
        if (wrong != 0) {
            System.exit(1);
        }
    }
}
