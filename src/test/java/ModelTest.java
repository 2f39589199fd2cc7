import java.nio.ByteBuffer;
import java.nio.CharBuffer;
import java.nio.charset.Charset;
import java.nio.charset.CharsetDecoder;
import java.nio.charset.CoderResult;
import java.nio.charset.CodingErrorAction;
import java.nio.charset.StandardCharsets;
import java.util.ArrayList;
import java.util.Arrays;
import java.util.Collections;
import java.util.List;
import java.util.Random;

/** Runs of up to 512 calls from fixed seeds, each answer against a model on the Java library's strings and charsets. */
public final class ModelTest {
    private static final int RUNS = 6000;
    // A step is two calls, and the look at the end 244 at most: nothing is promised after 512 calls.
    private static final int MOST_STEPS = 134;
    private static final int OUT = -2000000001;

    /** A model of a text: a list of items, and its sort. */
    private static final class Text {
        final int sort;
        final List<Integer> items;

        Text(int sort, List<Integer> items) {
            this.sort = sort;
            this.items = new ArrayList<>(items);
        }

        /** Packed units, or the units of listed points, as Java's own string. */
        String string() {
            StringBuilder s = new StringBuilder();
            for (int v : items) {
                s.appendCodePoint(v);
            }
            return s.toString();
        }

        List<Integer> pointList() {
            return sort == 0 ? list(string().codePoints().toArray()) : items;
        }

        List<Integer> unitList() {
            return sort == 1 ? list(string().chars().toArray()) : items;
        }

        int most() {
            return sort == 2 ? 240 : 60;
        }
    }

    private static List<Integer> list(int[] from) {
        List<Integer> made = new ArrayList<>();
        for (int v : from) {
            made.add(v);
        }
        return made;
    }

    /** The document's object, told with the library's means. */
    private static final class Model {
        final Text[] texts = new Text[10];
        final List<Text> keptTexts = new ArrayList<>();
        final List<Integer> draft = new ArrayList<>();
        int code = 0;
        int place = -1;

        int end(int newCode, int answer) {
            code = newCode;
            return answer;
        }

        int no(int newCode) {
            return end(newCode, 0);
        }

        int set(int t, int sort, List<Integer> items) {
            texts[t] = new Text(sort, items);
            return end(0, items.size());
        }

        int point(int p) {
            if (!Character.isValidCodePoint(p)) {
                return OUT;
            }
            if (draft.size() + Character.charCount(p) > 60) {
                return no(6);
            }
            for (char c : Character.toChars(p)) {
                draft.add((int) c);
            }
            return end(0, draft.size());
        }

        int unit(int u) {
            return u > 65535 ? OUT : point(u);
        }

        int fresh() {
            int n = draft.size();
            draft.clear();
            return n;
        }

        int lay(int t, int sort) {
            if (none(t) || sort < 0 || sort > 2) {
                return OUT;
            }
            Text laid = new Text(0, draft);
            if (sort == 1) {
                return set(t, 1, laid.pointList());
            }
            if (sort == 2) {
                laid.items.replaceAll(u -> u & 0xff);
            }
            return set(t, sort, laid.items);
        }

        int share(int t, int o) {
            if (none(t) || none(o)) {
                return OUT;
            }
            texts[t] = texts[o];
            return sort(t);
        }

        int nothing(int t) {
            int had = sort(t);
            if (had != OUT) {
                texts[t] = null;
            }
            return had;
        }

        int sort(int t) {
            return none(t) ? OUT : texts[t] == null ? -1 : texts[t].sort;
        }

        int length(int t) {
            return none(t) ? OUT : texts[t] == null ? no(1) : end(0, texts[t].items.size());
        }

        int points(int t) {
            if (none(t)) {
                return OUT;
            }
            if (texts[t] == null) {
                return no(1);
            }
            return texts[t].sort == 2 ? no(2) : end(0, texts[t].pointList().size());
        }

        int item(List<Integer> from, int k) {
            return k < 0 || k >= from.size() ? no(3) : end(0, from.get(k));
        }

        int at(int t, int k) {
            return none(t) ? OUT : texts[t] == null ? no(1) : item(texts[t].items, k);
        }

        int pointAt(int t, int k) {
            if (none(t)) {
                return OUT;
            }
            if (texts[t] == null) {
                return no(1);
            }
            return texts[t].sort == 2 ? no(2) : item(texts[t].pointList(), k);
        }

        int put(int t, int k, int v) {
            if (none(t)) {
                return OUT;
            }
            if (texts[t] == null) {
                return no(1);
            }
            if (texts[t].sort == 1) {
                return no(2);
            }
            if (item(texts[t].items, k) == 0 && code == 3) {
                return 0;
            }
            return texts[t].items.set(k, texts[t].sort == 0 ? (int) (char) v : v & 0xff);
        }

        int turnInto(int t, int o, int way) {
            if (none(t) || none(o) || way < 0 || way > 1) {
                return OUT;
            }
            if (texts[o] == null) {
                return no(1);
            }
            if (texts[o].sort == 2) {
                return no(2);
            }
            List<Integer> items = way == 0 ? texts[o].unitList() : texts[o].pointList();
            return items.size() > 60 ? no(6) : set(t, way, items);
        }

        int tell(int t, int o, int form) {
            if (none(t) || none(o) || form < 0 || form > 3) {
                return OUT;
            }
            if (texts[o] == null) {
                return no(1);
            }
            if (texts[o].sort == 2) {
                return no(2);
            }
            List<Integer> points = texts[o].pointList();
            for (int k = 0; k < points.size(); k++) {
                int p = points.get(k);
                boolean half = p >= Character.MIN_SURROGATE && p <= Character.MAX_SURROGATE;
                if (form == 0 && half || form == 3 && p > 255) {
                    place = k;
                    return no(5);
                }
            }
            List<Integer> bytes = new ArrayList<>();
            if (form == 1 || form == 2) {
                for (int u : texts[o].unitList()) {
                    bytes.addAll(form == 1 ? List.of(u >> 8, u & 255) : List.of(u & 255, u >> 8));
                }
            } else {
                Charset set = form == 0 ? StandardCharsets.UTF_8 : StandardCharsets.ISO_8859_1;
                for (byte b : texts[o].string().getBytes(set)) {
                    bytes.add(b & 255);
                }
            }
            return set(t, 2, bytes);
        }

        int read(int t, int b, int form) {
            if (none(t) || none(b) || form < 0 || form > 3) {
                return OUT;
            }
            if (texts[b] == null) {
                return no(1);
            }
            if (texts[b].sort != 2) {
                return no(2);
            }
            byte[] bytes = new byte[texts[b].items.size()];
            for (int k = 0; k < bytes.length; k++) {
                bytes[k] = texts[b].items.get(k).byteValue();
            }
            List<Integer> units = new ArrayList<>();
            if (form == 1 || form == 2) {
                if (bytes.length % 2 == 1) {
                    return brokenBehind(bytes.length / 2, bytes.length - 1);
                }
                ByteBuffer buffer = ByteBuffer.wrap(bytes);
                while (buffer.remaining() > 1) {
                    char c = buffer.getChar();
                    units.add((int) (form == 1 ? c : Character.reverseBytes(c)));
                }
            } else {
                CharsetDecoder decoder = (form == 0 ? StandardCharsets.UTF_8 : StandardCharsets.ISO_8859_1).newDecoder()
                    .onMalformedInput(CodingErrorAction.REPORT);
                ByteBuffer in = ByteBuffer.wrap(bytes);
                CharBuffer out = CharBuffer.allocate(1000);
                CoderResult result = decoder.decode(in, out, true);
                if (result.isError()) {
                    return brokenBehind(out.position(), in.position());
                }
                units = list(out.flip().chars().toArray());
            }
            return units.size() > 60 ? no(6) : set(t, 0, units);
        }

        /** Too many units ahead of what is broken are come to first. */
        int brokenBehind(int units, int where) {
            if (units > 60) {
                return no(6);
            }
            place = where;
            return no(5);
        }

        boolean parts(Text x, int k) {
            return x.sort == 0 && k > 0 && k < x.items.size()
                && Character.isSurrogatePair((char) (int) x.items.get(k - 1), (char) (int) x.items.get(k));
        }

        int cut(int t, int o, int i, int n) {
            if (none(t) || none(o)) {
                return OUT;
            }
            if (texts[o] == null) {
                return no(1);
            }
            if (n < 0) {
                return no(4);
            }
            if (i < 0 || (long) i + n > texts[o].items.size()) {
                return no(3);
            }
            if (n > 0 && (parts(texts[o], i) || parts(texts[o], i + n))) {
                return no(7);
            }
            return set(t, texts[o].sort, texts[o].items.subList(i, i + n));
        }

        int join(int t, int a, int b) {
            if (none(t) || none(a) || none(b)) {
                return OUT;
            }
            if (texts[a] == null || texts[b] == null) {
                return no(1);
            }
            if (texts[a].sort != texts[b].sort) {
                return no(2);
            }
            List<Integer> all = new ArrayList<>(texts[a].items);
            all.addAll(texts[b].items);
            return all.size() > texts[a].most() ? no(6) : set(t, texts[a].sort, all);
        }

        int back(int t, int o) {
            if (none(t) || none(o)) {
                return OUT;
            }
            if (texts[o] == null) {
                return no(1);
            }
            List<Integer> turned = new ArrayList<>(texts[o].pointList());
            Collections.reverse(turned);
            int sort = texts[o].sort;
            return set(t, sort, sort == 0 ? new Text(1, turned).unitList() : turned);
        }

        int copy(int x, int i, int y, int j, int n) {
            if (none(x) || none(y)) {
                return OUT;
            }
            if (texts[x] == null || texts[y] == null) {
                return no(1);
            }
            if (texts[x].sort == 1 || texts[x].sort != texts[y].sort) {
                return no(2);
            }
            if (i < 0 || j < 0 || n < 0 || (long) i + n > texts[x].items.size() || (long) j + n > texts[y].items.size()) {
                return no(3);
            }
            List<Integer> taken = new ArrayList<>(texts[x].items.subList(i, i + n));
            for (int k = 0; k < n; k++) {
                texts[y].items.set(j + k, taken.get(k));
            }
            return end(0, n);
        }

        int find(int a, int b, int i) {
            if (none(a) || none(b)) {
                return OUT;
            }
            if (texts[a] == null || texts[b] == null) {
                return end(1, -1);
            }
            if (texts[a].sort != texts[b].sort) {
                return end(2, -1);
            }
            int size = texts[b].items.size();
            for (int k = 0; k + size <= texts[a].items.size(); k++) {
                if (k >= i && texts[a].items.subList(k, k + size).equals(texts[b].items)
                        && !parts(texts[a], k) && !parts(texts[a], k + size)) {
                    return end(0, k);
                }
            }
            return end(0, -1);
        }

        int compare(int a, int b, int way) {
            if (none(a) || none(b) || way < 0 || way > 1) {
                return OUT;
            }
            if (texts[a] == null || texts[b] == null) {
                return no(1);
            }
            if (texts[a].sort != texts[b].sort && texts[a].sort + texts[b].sort != 1) {
                return no(2);
            }
            Text x = texts[a];
            Text y = texts[b];
            if (way == 0 && x.sort != 2) {
                return end(0, Integer.signum(x.string().compareTo(y.string())));
            }
            return end(0, Integer.signum(Arrays.compare(
                x.pointList().toArray(new Integer[0]), y.pointList().toArray(new Integer[0]))));
        }

        int change(int t, int o, int way) {
            if (none(t) || none(o) || way < 0 || way > 1) {
                return OUT;
            }
            if (texts[o] == null) {
                return no(1);
            }
            if (texts[o].sort == 2) {
                return no(2);
            }
            Text made = new Text(texts[o].sort, texts[o].items);
            made.items.replaceAll(p -> cased(p, way));
            return set(t, made.sort, made.items);
        }

        static int cased(int p, int way) {
            boolean known = p < 256 && p != 0xb5 || p == 376;
            return !known ? p : way == 0 ? Character.toUpperCase(p) : Character.toLowerCase(p);
        }

        int keep(int t) {
            if (none(t)) {
                return OUT;
            }
            if (texts[t] == null) {
                return no(1);
            }
            if (texts[t].sort != 0) {
                return no(2);
            }
            for (int k = 0; k < keptTexts.size(); k++) {
                if (keptTexts.get(k).items.equals(texts[t].items)) {
                    texts[t] = keptTexts.get(k);
                    return end(0, k);
                }
            }
            if (keptTexts.size() == 12) {
                return no(6);
            }
            keptTexts.add(texts[t]);
            return end(0, keptTexts.size() - 1);
        }

        int same(int a, int b) {
            return none(a) || none(b) ? OUT : texts[a] == texts[b] ? 1 : 0;
        }

        static boolean none(int t) {
            return t < 0 || t > 9;
        }
    }

    private static final int[] POINTS = {
        0, 9, 48, 65, 90, 97, 98, 122, 127, 128, 215, 223, 224, 247, 255, 256, 376, 2047, 2048, 55295, 55296, 55297,
        56319, 56320, 56321, 57343, 57344, 65535, 65536, 65537, 66559, 262144, 1114111, 1114112, -1,
    };
    private static final int[] BYTES = {
        0, 65, 127, 128, 143, 144, 159, 160, 191, 192, 193, 194, 223, 224, 237, 239, 240, 244, 245, 255,
    };
    private static final int[] GOOD_POINTS = {
        0, 127, 128, 2047, 2048, 55295, 57344, 65535, 65536, 1114111,
    };
    private static final int[] PLACES = {
        -1, 61, 239, 240, 241, Integer.MIN_VALUE, Integer.MAX_VALUE,
    };

    private final Random random;
    private final CharRows real = new CharRows();
    private final Model model = new Model();
    private String call = "";
    private int got;
    private int want;

    private ModelTest(long seed) {
        random = new Random(seed);
    }

    private int pick(int[] from) {
        return from[random.nextInt(from.length)];
    }

    private int text() {
        return random.nextInt(60) == 0 ? random.nextInt(2) * 11 - 1 : random.nextInt(10) % (random.nextBoolean() ? 10 : 4);
    }

    private int way(int most) {
        return random.nextInt(50) == 0 ? random.nextInt(2) * (most + 2) - 1 : random.nextInt(most + 1);
    }

    private int place() {
        return random.nextInt(12) == 0 ? pick(PLACES) : random.nextInt(random.nextBoolean() ? 5 : 62);
    }

    private int letter(int[] special) {
        return random.nextInt(3) == 0 ? 97 + random.nextInt(3) : pick(special);
    }

    private void note(String name, int gotNow, int wantNow) {
        call = name;
        got = gotNow;
        want = wantNow;
    }

    private void step() {
        int a = text();
        int b = text();
        int c = text();
        int i = place();
        int j = place();
        int n = place();
        int way = way(1);
        int form = way(3);
        int sort = way(2);
        int p = letter(random.nextInt(4) == 0 ? BYTES : POINTS);
        switch (random.nextInt(37)) {
            case 0, 1, 2 -> note("point " + p, real.point(p), model.point(p));
            case 3 -> note("unit " + p, real.unit(p), model.unit(p));
            case 4, 5 -> {
                int u = pick(BYTES);
                note("unit " + u, real.unit(u), model.unit(u));
            }
            case 6 -> note("fresh", real.fresh(), model.fresh());
            case 7, 8, 9, 10 -> note("lay " + a + " " + sort, real.lay(a, sort), model.lay(a, sort));
            case 11 -> note("share " + a + " " + b, real.share(a, b), model.share(a, b));
            case 12 -> {
                if (random.nextInt(6) == 0) {
                    note("nothing " + a, real.nothing(a), model.nothing(a));
                }
            }
            case 13 -> note("sort " + a, real.sort(a), model.sort(a));
            case 14 -> note("length " + a, real.length(a), model.length(a));
            case 15 -> note("points " + a, real.points(a), model.points(a));
            case 16 -> note("at " + a + " " + i, real.at(a, i), model.at(a, i));
            case 17 -> note("pointAt " + a + " " + i, real.pointAt(a, i), model.pointAt(a, i));
            case 18 -> note("put " + a + " " + i + " " + p, real.put(a, i, p), model.put(a, i, p));
            case 19, 20 -> note("turnInto " + a + " " + b + " " + way, real.turnInto(a, b, way), model.turnInto(a, b, way));
            case 21, 22 -> note("tell " + a + " " + b + " " + form, real.tell(a, b, form), model.tell(a, b, form));
            case 23, 24 -> note("read " + a + " " + b + " " + form, real.read(a, b, form), model.read(a, b, form));
            case 25 -> note("cut " + a + " " + b + " " + i + " " + n, real.cut(a, b, i, n), model.cut(a, b, i, n));
            case 26, 27 -> note("join " + a + " " + b + " " + c, real.join(a, b, c), model.join(a, b, c));
            case 28 -> note("back " + a + " " + b, real.back(a, b), model.back(a, b));
            case 29 -> note("copy " + a + " " + i + " " + b + " " + j + " " + n,
                real.copy(a, i, b, j, n), model.copy(a, i, b, j, n));
            case 30, 31 -> note("find " + a + " " + b + " " + i, real.find(a, b, i), model.find(a, b, i));
            case 32, 33 -> note("compare " + a + " " + b + " " + way, real.compare(a, b, way), model.compare(a, b, way));
            case 34 -> note("change " + a + " " + b + " " + way, real.change(a, b, way), model.change(a, b, way));
            case 35 -> note("keep " + a, real.keep(a), model.keep(a));
            default -> note("same " + a + " " + b, real.same(a, b), model.same(a, b));
        }
    }

    private boolean isWrong(String where) {
        if (got == want && real.code() == model.code && real.place() == model.place) {
            return false;
        }
        System.out.println(where + ": " + call + " answered " + got + ", code " + real.code() + ", place " + real.place()
            + "; due is " + want + ", code " + model.code + ", place " + model.place);
        return true;
    }

    private boolean isLike(int t) {
        if (real.sort(t) != model.sort(t) || real.length(t) != model.length(t)) {
            return false;
        }
        for (int k = 0; model.texts[t] != null && k < model.texts[t].items.size(); k++) {
            if (real.at(t, k) != model.at(t, k)) {
                return false;
            }
        }
        return real.kept() == model.keptTexts.size();
    }

    private boolean runs(int seed, int steps) {
        for (int k = 0; k < steps; k++) {
            step();
            if (isWrong("seed " + seed + ", call " + k)) {
                return false;
            }
        }
        if (!isLike(seed % 10)) {
            System.out.println("seed " + seed + ": text " + seed % 10 + " or kept is another one, last call " + call);
            return false;
        }
        return true;
    }

    private void layGoodBytes() {
        note("fresh", real.fresh(), model.fresh());
        int most = 1 + random.nextInt(20);
        for (int k = 0; k < most; k++) {
            int p = random.nextInt(3) == 0 ? pick(GOOD_POINTS) : 65;
            note("point " + p, real.point(p), model.point(p));
        }
        note("lay 1 0", real.lay(1, 0), model.lay(1, 0));
        note("tell 1 1 0", real.tell(1, 1, 0), model.tell(1, 1, 0));
    }

    /** Long rows of bytes, of which at most one is another one than is told, read in each form. */
    private boolean readsLong(int seed) {
        note("lay 0 2", real.lay(0, 2), model.lay(0, 2));
        for (int k = 0; k < 9; k++) {
            layGoodBytes();
            note("join 0 0 1", real.join(0, 0, 1), model.join(0, 0, 1));
        }
        int where = 40 + random.nextInt(60);
        int what = pick(BYTES);
        note("put 0 " + where + " " + what, real.put(0, where, what), model.put(0, where, what));
        for (int form = 0; form < 4; form++) {
            note("read 2 0 " + form, real.read(2, 0, form), model.read(2, 0, form));
            if (isWrong("long read, seed " + seed)) {
                return false;
            }
        }
        return true;
    }

    public static void main(String[] args) {
        int wrong = 0;
        for (int seed = 0; seed < RUNS && wrong < 20; seed++) {
            if (!new ModelTest(seed).readsLong(seed)) {
                wrong++;
            }
        }
        for (int seed = 0; seed < RUNS && wrong < 20; seed++) {
            if (!new ModelTest(seed).runs(seed, 1 + seed * 31 % MOST_STEPS)) {
                wrong++;
            }
        }
        System.out.println(wrong == 0 ? RUNS + " runs are as due" : wrong + " runs are not as due");
        if (wrong != 0) {
            System.exit(1);
        }
    }
}
