import java.lang.annotation.ElementType;
import java.lang.annotation.Retention;
import java.lang.annotation.RetentionPolicy;
import java.lang.annotation.Target;
import java.lang.reflect.InvocationTargetException;
import java.lang.reflect.Method;
import java.util.ArrayList;
import java.util.Arrays;
import java.util.Comparator;
import java.util.List;

/** What the tests share that each hold the class to one sentence of the document. */
abstract class Sentences {
    static final int OUT = -2000000001;
    static final int NONE = -1;
    static final int LEAST = Integer.MIN_VALUE;
    static final int GREATEST = Integer.MAX_VALUE;
    static final int PACKED = 0;
    static final int LISTED = 1;
    static final int BYTES = 2;
    /** The first HIGH and the first LOW UNIT: as a pair they are point 65536. */
    static final int HIGH = 55296;
    static final int LOW = 56320;

    private static int wrong = 0;
    private static String test = "";

    /** The promise (0: 'Terms', ahead of them all), and its words that a test stands for. */
    @Retention(RetentionPolicy.RUNTIME)
    @Target(ElementType.METHOD)
    @interface Says {
        int promise();

        String words();
    }

    /** A call with its arguments. */
    interface Call {
        int on(CharRows x);
    }

    static void due(String what, int got, int want) {
        if (got != want) {
            fault(what + " answered " + got + ", due is " + want);
        }
    }

    static void due(String what, String got, String want) {
        if (!got.equals(want)) {
            fault(what + " is " + got + ", due is " + want);
        }
    }

    private static void fault(String what) {
        wrong++;
        System.out.println(test + ": " + what);
    }

    static void took(CharRows x, String what, int got, int want) {
        due(what, got, want);
        due("code() after " + what, x.code(), 0);
    }

    static void refused(CharRows x, String what, int got, int code) {
        due(what, got, 0);
        due("code() after " + what, x.code(), code);
    }

    static void brokenAt(CharRows x, String what, int got, int place) {
        refused(x, what, got, 5);
        due("place() after " + what, x.place(), place);
    }

    static int[] of(int... items) {
        return items;
    }

    static int[] times(int n, int item) {
        int[] row = new int[n];
        Arrays.fill(row, item);
        return row;
    }

    static int[] rows(int[] first, int... second) {
        int[] both = Arrays.copyOf(first, first.length + second.length);
        System.arraycopy(second, 0, both, first.length, second.length);
        return both;
    }

    /** The draft is these units. */
    static void drafts(CharRows x, int... units) {
        x.fresh();
        for (int u : units) {
            x.unit(u);
        }
    }

    /** A text is these units, laid; the draft is empty then. */
    static void lays(CharRows x, int t, int sort, int... units) {
        drafts(x, units);
        x.lay(t, sort);
        x.fresh();
    }

    /** A text is these bytes, 240 at most; text 8 is used up. */
    static void laysBytes(CharRows x, int t, int... bytes) {
        lays(x, t, BYTES);
        for (int k = 0; k < bytes.length; k += 60) {
            lays(x, 8, BYTES, Arrays.copyOfRange(bytes, k, Math.min(k + 60, bytes.length)));
            x.join(t, t, 8);
        }
    }

    /** A listed text is point 65536, n times, 60 at most; text 8 is used up. */
    static void laysGreat(CharRows x, int t, int n) {
        x.fresh();
        x.lay(t, LISTED);
        for (int k = 0; k < n; k += 30) {
            x.fresh();
            for (int m = k; m < n && m < k + 30; m++) {
                x.point(65536);
            }
            x.lay(8, LISTED);
            x.join(t, t, 8);
        }
        x.fresh();
    }

    static void holds(CharRows x, int t, int sort, int... items) {
        due("sort(" + t + ")", x.sort(t), sort);
        due("text " + t, itemsOf(x, t), Arrays.toString(items));
    }

    static String itemsOf(CharRows x, int t) {
        int[] items = new int[x.length(t)];
        for (int k = 0; k < items.length; k++) {
            items[k] = x.at(t, k);
        }
        return Arrays.toString(items);
    }

    /** All that can be seen of an object but its code and place; text 0 and its code are used up. */
    static String look(CharRows x) {
        StringBuilder seen = new StringBuilder("kept ").append(x.kept());
        for (int t = 0; t < 10; t++) {
            seen.append("; ").append(t).append(" of sort ").append(x.sort(t));
            boolean isNew = true;
            for (int s = 0; s < t && isNew; s++) {
                if (x.same(s, t) == 1) {
                    seen.append(" is ").append(s);
                    isNew = false;
                }
            }
            if (isNew) {
                seen.append(' ').append(itemsOf(x, t));
            }
        }
        x.lay(0, PACKED);
        return seen.append("; draft ").append(itemsOf(x, 0)).toString();
    }

    static void runAll(Class<?> tests) {
        List<Method> all = new ArrayList<>();
        for (Method m : tests.getDeclaredMethods()) {
            if (m.isAnnotationPresent(Says.class)) {
                all.add(m);
            }
        }
        all.sort(Comparator.comparingInt((Method m) -> m.getAnnotation(Says.class).promise())
            .thenComparing(Method::getName));
        for (Method m : all) {
            runOne(m);
        }
        System.out.println(wrong == 0 ? all.size() + " sentences hold" : wrong + " answers are not as due");
        if (wrong != 0 || all.isEmpty()) {
            System.exit(1);
        }
    }

    private static void runOne(Method m) {
        Says says = m.getAnnotation(Says.class);
        test = (says.promise() == 0 ? "Terms" : "promise " + says.promise())
            + ", \"" + says.words() + "\" (" + m.getName() + ")";
        try {
            m.setAccessible(true);
            m.invoke(null);
        } catch (InvocationTargetException e) {
            fault("a call threw " + e.getCause());
        } catch (IllegalAccessException e) {
            fault("the test can't be run: " + e);
        }
    }
}
