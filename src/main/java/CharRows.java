import java.util.Arrays;

/** Texts of points: packed in units, listed point by point, or told as bytes. */
public final class CharRows {
    public static final int NONE = -1, OUTSIDE = -2000000001;

    private static final int MOST_TEXTS = 10, MOST_KEPT = 12;
    private static final int MOST_ITEMS = 60, MOST_BYTES = 240;

    private static final int PACKED = 0, LISTED = 1, BYTES = 2;

    private static final int DONE = 0, NO_TEXT = 1, OTHER_SORT = 2, NO_ITEM = 3;
    private static final int BELOW_ZERO = 4, BROKEN = 5, TOO_MANY = 6, PARTED = 7;

    private static final int MANY_BYTES = 0, HIGHER_FIRST = 1, LOWER_FIRST = 2, ONE_BYTE = 3;

    private static final int FIRST_HIGH = 55296, FIRST_LOW = 56320, LAST_LOW = 57343;
    private static final int LAST_UNIT = 65535, FIRST_GREAT = 65536, LAST_POINT = 1114111;

    private final Text[] texts;
    private final Text[] keptTexts;
    private int keptCount;
    private final Row draft;
    // Every call works in these two, so that only a text that stays is made anew.
    private final Row work;
    private final Row secondWork;
    private int lastCode;
    private int lastPlace;

    /** What TEXTS hold. Two of them are the same one if they hold the same object. */
    private static final class Text {
        final int kindOfItems;
        final int[] items;

        Text(int kindOfItems, Row row) {
            this.kindOfItems = kindOfItems;
            this.items = Arrays.copyOf(row.items, row.count < 0 ? 0 : row.count);
        }

        int mostItems() {
            return kindOfItems == BYTES ? MOST_BYTES : MOST_ITEMS;
        }
    }

    /** Items one behind the other, in a room that is made once. */
    private static final class Row {
        final int[] items;
        int count;

        Row(int room) {
            items = new int[room < 0 ? 0 : room];
            count = 0;
        }

        void empty() {
            count = 0;
        }

        // The limits of the document keep every row within its room; the test is for the machine's sake.
        void add(int item) {
            if (count >= 0 && count < items.length) {
                items[count] = item;
                count++;
            }
        }

        void addAll(int[] others) {
            for (int k = 0; k < others.length; k++) {
                add(others[k]);
            }
        }

        void addUnitsOf(int p) {
            if (p < FIRST_GREAT) {
                add(p);
                return;
            }
            int v = p - FIRST_GREAT;
            add(FIRST_HIGH + v / 1024);
            add(FIRST_LOW + v % 1024);
        }

        void addPointsOf(int[] units, int n) {
            for (int k = 0; k < n && k < units.length; k++) {
                if (isInsidePair(units, n, k + 1)) {
                    add(pairedPoint(units, k));
                } else if (!isInsidePair(units, n, k)) {
                    add(units[k]);
                }
            }
        }
    }

    public CharRows() {
        texts = new Text[MOST_TEXTS];
        keptTexts = new Text[MOST_KEPT];
        keptCount = 0;
        draft = new Row(MOST_ITEMS);
        work = new Row(MOST_BYTES);
        secondWork = new Row(MOST_BYTES);
        lastCode = DONE;
        lastPlace = NONE;
    }

    public int code() {
        return lastCode;
    }

    public int place() {
        return lastPlace;
    }

    public int point(int p) {
        if (isNoPoint(p)) {
            return OUTSIDE;
        }
        if (draft.count + unitCount(p) > MOST_ITEMS) {
            return refuse(TOO_MANY);
        }
        draft.addUnitsOf(p);
        return done(draft.count);
    }

    public int unit(int u) {
        if (u < 0 || u > LAST_UNIT) {
            return OUTSIDE;
        }
        if (draft.count >= MOST_ITEMS) {
            return refuse(TOO_MANY);
        }
        draft.add(u);
        return done(draft.count);
    }

    public int fresh() {
        int had = draft.count;
        draft.empty();
        return had;
    }

    public int lay(int t, int sort) {
        if (isNoText(t) || sort < PACKED || sort > BYTES) {
            return OUTSIDE;
        }
        work.empty();
        if (sort == LISTED) {
            work.addPointsOf(draft.items, draft.count);
        } else {
            int mask = maskOf(sort);
            for (int k = 0; k < draft.count && k < draft.items.length; k++) {
                work.add(draft.items[k] & mask);
            }
        }
        return setText(t, sort, work);
    }

    public int share(int t, int other) {
        if (isNoText(t) || isNoText(other)) {
            return OUTSIDE;
        }
        texts[t] = texts[other];
        return sortOf(texts[t]);
    }

    public int nothing(int t) {
        if (isNoText(t)) {
            return OUTSIDE;
        }
        int had = sortOf(texts[t]);
        texts[t] = null;
        return had;
    }

    public int sort(int t) {
        if (isNoText(t)) {
            return OUTSIDE;
        }
        return sortOf(texts[t]);
    }

    public int length(int t) {
        if (isNoText(t)) {
            return OUTSIDE;
        }
        Text text = texts[t];
        if (text == null) {
            return refuse(NO_TEXT);
        }
        return done(text.items.length);
    }

    public int points(int t) {
        if (isNoText(t)) {
            return OUTSIDE;
        }
        Text text = texts[t];
        if (text == null) {
            return refuse(NO_TEXT);
        }
        if (text.kindOfItems == BYTES) {
            return refuse(OTHER_SORT);
        }
        listPoints(text, work);
        return done(work.count);
    }

    public int at(int t, int k) {
        if (isNoText(t)) {
            return OUTSIDE;
        }
        Text text = texts[t];
        if (text == null) {
            return refuse(NO_TEXT);
        }
        if (k < 0 || k >= text.items.length) {
            return refuse(NO_ITEM);
        }
        return done(text.items[k]);
    }

    public int pointAt(int t, int k) {
        if (isNoText(t)) {
            return OUTSIDE;
        }
        Text text = texts[t];
        if (text == null) {
            return refuse(NO_TEXT);
        }
        if (text.kindOfItems == BYTES) {
            return refuse(OTHER_SORT);
        }
        listPoints(text, work);
        if (k < 0 || k >= work.count || k >= work.items.length) {
            return refuse(NO_ITEM);
        }
        return done(work.items[k]);
    }

    public int put(int t, int k, int v) {
        if (isNoText(t)) {
            return OUTSIDE;
        }
        Text text = texts[t];
        if (text == null) {
            return refuse(NO_TEXT);
        }
        if (text.kindOfItems == LISTED) {
            return refuse(OTHER_SORT);
        }
        if (k < 0 || k >= text.items.length) {
            return refuse(NO_ITEM);
        }
        int had = text.items[k];
        text.items[k] = v & maskOf(text.kindOfItems);
        return done(had);
    }

    public int turnInto(int t, int other, int way) {
        if (isNoText(t) || isNoText(other) || isNoWay(way)) {
            return OUTSIDE;
        }
        Text text = texts[other];
        if (text == null) {
            return refuse(NO_TEXT);
        }
        if (text.kindOfItems == BYTES) {
            return refuse(OTHER_SORT);
        }
        if (way == LISTED) {
            listPoints(text, work);
        } else {
            listUnits(text, work);
        }
        if (work.count > MOST_ITEMS) {
            return refuse(TOO_MANY);
        }
        return setText(t, way, work);
    }

    public int tell(int t, int other, int form) {
        if (isNoText(t) || isNoText(other) || isNoForm(form)) {
            return OUTSIDE;
        }
        Text text = texts[other];
        if (text == null) {
            return refuse(NO_TEXT);
        }
        if (text.kindOfItems == BYTES) {
            return refuse(OTHER_SORT);
        }
        secondWork.empty();
        if (form == HIGHER_FIRST || form == LOWER_FIRST) {
            listUnits(text, work);
            tellUnits(work, form, secondWork);
            return setText(t, BYTES, secondWork);
        }
        listPoints(text, work);
        int wrong = firstUntellable(work, form);
        if (wrong != NONE) {
            return refuseAt(wrong);
        }
        tellPoints(work, form, secondWork);
        return setText(t, BYTES, secondWork);
    }

    public int read(int t, int bytes, int form) {
        if (isNoText(t) || isNoText(bytes) || isNoForm(form)) {
            return OUTSIDE;
        }
        Text text = texts[bytes];
        if (text == null) {
            return refuse(NO_TEXT);
        }
        if (text.kindOfItems != BYTES) {
            return refuse(OTHER_SORT);
        }
        int wrong = readUnits(text.items, form, work);
        if (wrong != NONE) {
            return refuseAt(wrong);
        }
        if (work.count > MOST_ITEMS) {
            return refuse(TOO_MANY);
        }
        return setText(t, PACKED, work);
    }

    public int cut(int t, int other, int i, int n) {
        if (isNoText(t) || isNoText(other)) {
            return OUTSIDE;
        }
        Text text = texts[other];
        if (text == null) {
            return refuse(NO_TEXT);
        }
        if (n < 0) {
            return refuse(BELOW_ZERO);
        }
        if (isBeyond(text, i, n)) {
            return refuse(NO_ITEM);
        }
        // No items have neither a first nor a last one, so they part no pair wherever they are cut.
        if (n > 0 && (partsPair(text, i) || partsPair(text, i + n))) {
            return refuse(PARTED);
        }
        work.empty();
        for (int k = i; k < i + n && k < text.items.length; k++) {
            work.add(text.items[k]);
        }
        return setText(t, text.kindOfItems, work);
    }

    public int join(int t, int a, int b) {
        if (isNoText(t) || isNoText(a) || isNoText(b)) {
            return OUTSIDE;
        }
        Text first = texts[a];
        Text second = texts[b];
        if (first == null || second == null) {
            return refuse(NO_TEXT);
        }
        if (first.kindOfItems != second.kindOfItems) {
            return refuse(OTHER_SORT);
        }
        if (first.items.length + second.items.length > first.mostItems()) {
            return refuse(TOO_MANY);
        }
        work.empty();
        work.addAll(first.items);
        work.addAll(second.items);
        return setText(t, first.kindOfItems, work);
    }

    public int back(int t, int other) {
        if (isNoText(t) || isNoText(other)) {
            return OUTSIDE;
        }
        Text text = texts[other];
        if (text == null) {
            return refuse(NO_TEXT);
        }
        listPoints(text, work);
        secondWork.empty();
        for (int k = work.count - 1; k >= 0 && k < work.items.length; k--) {
            if (text.kindOfItems == PACKED) {
                secondWork.addUnitsOf(work.items[k]);
            } else {
                secondWork.add(work.items[k]);
            }
        }
        return setText(t, text.kindOfItems, secondWork);
    }

    public int copy(int x, int i, int y, int j, int n) {
        if (isNoText(x) || isNoText(y)) {
            return OUTSIDE;
        }
        Text from = texts[x];
        Text into = texts[y];
        if (from == null || into == null) {
            return refuse(NO_TEXT);
        }
        if (from.kindOfItems == LISTED || from.kindOfItems != into.kindOfItems) {
            return refuse(OTHER_SORT);
        }
        if (isBeyond(from, i, n) || isBeyond(into, j, n)) {
            return refuse(NO_ITEM);
        }
        // The machine's own copy reads each item before it is written over, also within one text.
        System.arraycopy(from.items, i, into.items, j, n);
        return done(n);
    }

    public int find(int a, int b, int i) {
        if (isNoText(a) || isNoText(b)) {
            return OUTSIDE;
        }
        Text text = texts[a];
        Text part = texts[b];
        if (text == null || part == null) {
            refuse(NO_TEXT);
            return NONE;
        }
        if (text.kindOfItems != part.kindOfItems) {
            refuse(OTHER_SORT);
            return NONE;
        }
        int last = text.items.length - part.items.length;
        for (int k = i < 0 ? 0 : i; k <= last; k++) {
            if (standsAt(text, part, k)) {
                return done(k);
            }
        }
        return done(NONE);
    }

    public int compare(int a, int b, int way) {
        if (isNoText(a) || isNoText(b) || isNoWay(way)) {
            return OUTSIDE;
        }
        Text first = texts[a];
        Text second = texts[b];
        if (first == null || second == null) {
            return refuse(NO_TEXT);
        }
        if ((first.kindOfItems == BYTES) != (second.kindOfItems == BYTES)) {
            return refuse(OTHER_SORT);
        }
        if (way == 0) {
            listUnits(first, work);
            listUnits(second, secondWork);
        } else {
            listPoints(first, work);
            listPoints(second, secondWork);
        }
        return done(order(work, secondWork));
    }

    public int change(int t, int other, int way) {
        if (isNoText(t) || isNoText(other) || isNoWay(way)) {
            return OUTSIDE;
        }
        Text text = texts[other];
        if (text == null) {
            return refuse(NO_TEXT);
        }
        if (text.kindOfItems == BYTES) {
            return refuse(OTHER_SORT);
        }
        // No unit of a pair has a case, so the items stand for the points.
        work.empty();
        for (int k = 0; k < text.items.length; k++) {
            work.add(way == 0 ? greater(text.items[k]) : lesser(text.items[k]));
        }
        return setText(t, text.kindOfItems, work);
    }

    public int keep(int t) {
        if (isNoText(t)) {
            return OUTSIDE;
        }
        Text text = texts[t];
        if (text == null) {
            return refuse(NO_TEXT);
        }
        if (text.kindOfItems != PACKED) {
            return refuse(OTHER_SORT);
        }
        int number = keptLike(text);
        if (number >= 0 && number < keptTexts.length) {
            texts[t] = keptTexts[number];
            return done(number);
        }
        if (keptCount < 0 || keptCount >= keptTexts.length) {
            return refuse(TOO_MANY);
        }
        keptTexts[keptCount] = text;
        keptCount++;
        return done(keptCount - 1);
    }

    public int kept() {
        return keptCount;
    }

    public int same(int a, int b) {
        if (isNoText(a) || isNoText(b)) {
            return OUTSIDE;
        }
        return texts[a] == texts[b] ? 1 : 0;
    }

    public int kind(int p) {
        if (isNoPoint(p)) {
            return OUTSIDE;
        }
        if (isHigh(p)) {
            return 0;
        }
        if (isLow(p)) {
            return 1;
        }
        if (p >= 48 && p <= 57) {
            return 2;
        }
        if (greater(p) != p || lesser(p) != p) {
            return 3;
        }
        if (p >= 9 && p <= 13 || p == 32 || p == 160) {
            return 4;
        }
        return p >= FIRST_GREAT ? 5 : 6;
    }

    private int done(int answer) {
        lastCode = DONE;
        return answer;
    }

    private int refuse(int why) {
        lastCode = why;
        return 0;
    }

    private int refuseAt(int where) {
        lastPlace = where;
        return refuse(BROKEN);
    }

    private int setText(int t, int sort, Row row) {
        texts[t] = new Text(sort, row);
        return done(row.count);
    }

    private int keptLike(Text text) {
        for (int k = 0; k < keptCount && k < keptTexts.length; k++) {
            if (hasSameItems(keptTexts[k], text)) {
                return k;
            }
        }
        return NONE;
    }

    private static boolean isNoText(int t) {
        return t < 0 || t >= MOST_TEXTS;
    }

    private static boolean isNoPoint(int p) {
        return p < 0 || p > LAST_POINT;
    }

    private static boolean isNoForm(int form) {
        return form < MANY_BYTES || form > ONE_BYTE;
    }

    private static boolean isNoWay(int way) {
        return way != 0 && way != 1;
    }

    private static boolean isHigh(int u) {
        return u >= FIRST_HIGH && u < FIRST_LOW;
    }

    private static boolean isLow(int u) {
        return u >= FIRST_LOW && u <= LAST_LOW;
    }

    private static int unitCount(int p) {
        return p < FIRST_GREAT ? 1 : 2;
    }

    private static int maskOf(int sort) {
        return sort == BYTES ? 255 : 65535;
    }

    private static int sortOf(Text text) {
        return text == null ? NONE : text.kindOfItems;
    }

    /** Whether a cut right ahead of unit k would part a pair. */
    private static boolean isInsidePair(int[] units, int n, int k) {
        if (k < 1 || k >= n || k >= units.length) {
            return false;
        }
        return isHigh(units[k - 1]) && isLow(units[k]);
    }

    /** The point of the pair that begins at unit k, if there is room for one. */
    private static int pairedPoint(int[] units, int k) {
        if (k < 0 || k >= units.length - 1) {
            return 0;
        }
        return FIRST_GREAT + (units[k] - FIRST_HIGH) * 1024 + (units[k + 1] - FIRST_LOW);
    }

    private static boolean partsPair(Text text, int k) {
        return text.kindOfItems == PACKED && isInsidePair(text.items, text.items.length, k);
    }

    /** Whether n items from item i on are not all there, or n or i is below 0. */
    private static boolean isBeyond(Text text, int i, int n) {
        int length = text.items.length;
        // Taken from the length, as i + n may be too great for an int.
        return i < 0 || n < 0 || i > length || n > length - i;
    }

    private static void listPoints(Text text, Row into) {
        into.empty();
        if (text.kindOfItems == PACKED) {
            into.addPointsOf(text.items, text.items.length);
        } else {
            into.addAll(text.items);
        }
    }

    private static void listUnits(Text text, Row into) {
        into.empty();
        if (text.kindOfItems != LISTED) {
            into.addAll(text.items);
            return;
        }
        for (int k = 0; k < text.items.length; k++) {
            into.addUnitsOf(text.items[k]);
        }
    }

    /** The number of the first point that a form has no bytes for, or NONE. */
    private static int firstUntellable(Row points, int form) {
        for (int k = 0; k < points.count && k < points.items.length; k++) {
            int p = points.items[k];
            if (form == ONE_BYTE ? p > 255 : isHigh(p) || isLow(p)) {
                return k;
            }
        }
        return NONE;
    }

    private static void tellUnits(Row units, int form, Row into) {
        for (int k = 0; k < units.count && k < units.items.length; k++) {
            int higher = units.items[k] / 256;
            int lower = units.items[k] % 256;
            into.add(form == HIGHER_FIRST ? higher : lower);
            into.add(form == HIGHER_FIRST ? lower : higher);
        }
    }

    private static void tellPoints(Row points, int form, Row into) {
        for (int k = 0; k < points.count && k < points.items.length; k++) {
            if (form == ONE_BYTE) {
                into.add(points.items[k]);
            } else {
                tellInManyBytes(points.items[k], into);
            }
        }
    }

    private static void tellInManyBytes(int p, Row into) {
        if (p < 128) {
            into.add(p);
            return;
        }
        if (p < 2048) {
            into.add(192 + p / 64);
        } else if (p < FIRST_GREAT) {
            into.add(224 + p / 4096);
            into.add(128 + p / 64 % 64);
        } else {
            into.add(240 + p / 262144);
            into.add(128 + p / 4096 % 64);
            into.add(128 + p / 64 % 64);
        }
        into.add(128 + p % 64);
    }

    /**
     * Reads bytes in a form; answers the place of what is broken, or NONE. The reading ends at the
     * first unit that is one too many: what is broken behind it is never come to.
     */
    private static int readUnits(int[] bytes, int form, Row into) {
        into.empty();
        if (form == MANY_BYTES) {
            return readManyBytes(bytes, into);
        }
        if (form == ONE_BYTE) {
            into.addAll(bytes);
            return NONE;
        }
        return readTwoBytes(bytes, form, into);
    }

    private static int readTwoBytes(int[] bytes, int form, Row into) {
        for (int k = 0; k < bytes.length && into.count <= MOST_ITEMS; k += 2) {
            if (k == bytes.length - 1) {
                return k;
            }
            int higher = form == HIGHER_FIRST ? bytes[k] : bytes[k + 1];
            int lower = form == HIGHER_FIRST ? bytes[k + 1] : bytes[k];
            into.add(higher * 256 + lower);
        }
        return NONE;
    }

    private static int readManyBytes(int[] bytes, Row into) {
        int next = 0;
        for (int k = 0; k < bytes.length && into.count <= MOST_ITEMS; k++) {
            if (k >= next) {
                int p = pointFrom(bytes, k);
                if (p == NONE) {
                    return k;
                }
                into.addUnitsOf(p);
                next = k + byteCount(bytes[k]);
            }
        }
        return NONE;
    }

    /** How many bytes a point has that begins with this one; 0: none begins so. */
    private static int byteCount(int first) {
        if (first < 128) {
            return 1;
        }
        if (first < 194 || first > 244) {
            return 0;
        }
        if (first < 224) {
            return 2;
        }
        return first < 240 ? 3 : 4;
    }

    /** The point that begins at byte k, or NONE if it can't be told so. */
    private static int pointFrom(int[] bytes, int k) {
        if (k < 0 || k >= bytes.length) {
            return NONE;
        }
        int count = byteCount(bytes[k]);
        if (count == 0 || count > bytes.length - k) {
            return NONE;
        }
        int p = bytes[k] - firstByteOffset(count);
        for (int m = k + 1; m < k + count && m < bytes.length; m++) {
            if (bytes[m] < 128 || bytes[m] > 191) {
                return NONE;
            }
            p = p * 64 + (bytes[m] - 128);
        }
        return isToldIn(p, count) ? p : NONE;
    }

    private static int firstByteOffset(int count) {
        switch (count) {
            case 2:
                return 192;
            case 3:
                return 224;
            case 4:
                return 240;
            default:
                return 0;
        }
    }

    /** Whether a point that this many bytes tell is one, and is not told in fewer. */
    private static boolean isToldIn(int p, int count) {
        if (count == 3) {
            return p >= 2048 && !isHigh(p) && !isLow(p);
        }
        if (count == 4) {
            return p >= FIRST_GREAT && p <= LAST_POINT;
        }
        return true;
    }

    private static boolean standsAt(Text text, Text part, int k) {
        int size = part.items.length;
        if (isBeyond(text, k, size) || partsPair(text, k) || partsPair(text, k + size)) {
            return false;
        }
        for (int m = 0; m < size; m++) {
            if (text.items[k + m] != part.items[m]) {
                return false;
            }
        }
        return true;
    }

    private static int order(Row a, Row b) {
        int shared = Math.min(Math.min(a.count, a.items.length), Math.min(b.count, b.items.length));
        for (int k = 0; k < shared; k++) {
            if (a.items[k] != b.items[k]) {
                return a.items[k] < b.items[k] ? -1 : 1;
            }
        }
        return a.count == b.count ? 0 : a.count < b.count ? -1 : 1;
    }

    private static boolean hasSameItems(Text a, Text b) {
        if (a == null || b == null || a.items.length != b.items.length) {
            return false;
        }
        for (int k = 0; k < a.items.length && k < b.items.length; k++) {
            if (a.items[k] != b.items[k]) {
                return false;
            }
        }
        return true;
    }

    private static int greater(int p) {
        if (p >= 97 && p <= 122 || p >= 224 && p <= 254 && p != 247) {
            return p - 32;
        }
        return p == 255 ? 376 : p;
    }

    private static int lesser(int p) {
        if (p >= 65 && p <= 90 || p >= 192 && p <= 222 && p != 215) {
            return p + 32;
        }
        return p == 376 ? 255 : p;
    }
}
