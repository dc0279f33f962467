import java.lang.reflect.Method;
import java.util.ArrayList;
import java.util.List;
import java.util.regex.Matcher;
import java.util.regex.Pattern;

/** What the tests of the edges share: answers that are due, days by their text, and all that an object holds. */
final class Edges {
    static final int UNKNOWN = -1, BAD = -2, LATE = -3, FULL = -4, NONE = -9;
    static final int LOWEST = Integer.MIN_VALUE, HIGHEST = Integer.MAX_VALUE;

    /** Makes an object and brings it where a test begins; the same each time. */
    interface Scene {
        SoftAsks make();
    }

    interface Call {
        long on(SoftAsks x);
    }

    private static final Pattern A_CALL = Pattern.compile("(\\w+)\\(([^()]*)\\)");

    private static String sentence = "";
    private static int wrong = 0;

    private Edges() {
    }

    /** The document's words that the answers behind it are held against. */
    static void sentence(String words) {
        sentence = words;
    }

    static void due(String call, long got, long want) {
        if (got != want) {
            wrong++;
            System.out.println("\"" + sentence + "\": " + call + " answered " + got + ", due is " + want);
        }
    }

    static void so(String what, boolean is) {
        due(what, is ? 1 : 0, 1);
    }

    static void finish(String name) {
        System.out.println(name + (wrong == 0 ? ": all as due" : ": " + wrong + " wrong"));
        if (wrong != 0) {
            System.exit(1);
        }
    }

    static SoftAsks write(SoftAsks x, String text) {
        x.wipe();
        for (int i = 0; i < text.length(); i++) {
            x.write(text.charAt(i));
        }
        return x;
    }

    static SoftAsks of(String text) {
        SoftAsks x = write(new SoftAsks(), text);
        so("day() of " + text, x.day() >= 0);
        return x;
    }

    /** A day by a policy: TRIES, GAIN, HEDGE, BREAKER, SHED, as many of them as are told. */
    static SoftAsks by(String text, int... policy) {
        SoftAsks x = of(text);
        for (int what = 0; what < policy.length; what++) {
            x.set(what, policy[what]);
        }
        return x;
    }

    static int bits(double f) {
        return Float.floatToIntBits((float) f);
    }

    static void abouts(String when, SoftAsks x, int first, int... want) {
        for (int i = 0; i < want.length; i++) {
            due(when + ": about(" + (first + i) + ")", x.about(first + i), want[i]);
        }
    }

    /** How an ask ends, at which tick, by which host, its tries, whether it was hedged. */
    static void ends(String when, SoftAsks x, int ask, int... want) {
        for (int i = 0; i < want.length; i++) {
            due(when + ": ask(" + ask + ", " + (3 + i) + ")", x.ask(ask, 3 + i), want[i]);
        }
    }

    static void totals(String when, SoftAsks x, int... want) {
        for (int i = 0; i < want.length; i++) {
            due(when + ": total(" + i + ")", x.total(i), want[i]);
        }
    }

    /** Works that ended, bad ones, wasted ones, openings, shed copies. */
    static void counts(String when, SoftAsks x, int host, int... want) {
        for (int i = 0; i < want.length; i++) {
            due(when + ": host(" + host + ", " + (3 + i) + ")", x.host(host, 3 + i), want[i]);
        }
    }

    /** Copies that wait, works, the breaker, who waits first, the bits of the rate. */
    static void stands(String when, SoftAsks x, int t, int host, int... want) {
        for (int i = 0; i < want.length; i++) {
            due(when + ": stand(" + t + ", " + host + ", " + i + ")", x.stand(t, host, i), want[i]);
        }
    }

    /** Calls as they are written in Java, one behind the other, "set(2, 1) total(5)": what the last one answers. */
    static long said(SoftAsks x, String calls) {
        long answer = 0;
        Matcher m = A_CALL.matcher(calls);
        while (m.find()) {
            answer = said(x, m.group(1), m.group(2).isEmpty() ? new String[0] : m.group(2).split(",\\s*"));
        }
        return answer;
    }

    private static long said(SoftAsks x, String name, String[] told) {
        for (Method m : SoftAsks.class.getMethods()) {
            Class<?>[] kinds = m.getParameterTypes();
            if (m.getName().equals(name) && kinds.length == told.length && m.getDeclaringClass() == SoftAsks.class) {
                Object[] given = new Object[told.length];
                for (int i = 0; i < told.length; i++) {
                    given[i] = value(kinds[i], told[i]);
                }
                try {
                    return ((Number) m.invoke(x, given)).longValue();
                } catch (ReflectiveOperationException e) {
                    throw new IllegalStateException(name + " threw", e);
                }
            }
        }
        throw new IllegalArgumentException("no call " + name + " of " + told.length);
    }

    private static Object value(Class<?> kind, String told) {
        if (kind == boolean.class) {
            return Boolean.valueOf(told);
        }
        if (kind == long.class) {
            return Long.valueOf(told);
        }
        return told.startsWith("'") ? (Object) (int) told.charAt(1) : Integer.valueOf(told);
    }

    static void refused(String call, Scene scene, Call c, long want) {
        due(call, c.on(scene.make()), want);
        leaves(call, scene, c);
    }

    /** The call changes nothing that can be asked for, now or by what can still be done. */
    static void leaves(String call, Scene scene, Call c) {
        SoftAsks x = scene.make();
        c.on(x);
        List<Long> got = all(x), want = all(scene.make());
        for (int i = 0; i < Math.max(got.size(), want.size()); i++) {
            if (i >= got.size() || i >= want.size() || !got.get(i).equals(want.get(i))) {
                due(call + " leaves all as it was (answer " + i + " of all)", 0, 1);
                return;
            }
        }
    }

    /** All that an object holds, as far as answers tell; the object is used up by it. */
    static List<Long> all(SoftAsks x) {
        List<Long> a = new ArrayList<>();
        policyOf(x, a, 0, 11);
        a.add((long) x.fault());
        for (int what = 0; what <= 10; what++) {
            a.add((long) x.total(what));
        }
        int hosts = x.about(0), asks = x.about(1);
        for (int what = 0; what <= 7; what++) {
            for (int i = 0; i < asks; i++) {
                a.add((long) x.ask(i, what));
            }
            for (int h = 0; h < hosts; h++) {
                a.add((long) x.host(h, what));
            }
        }
        for (int h = 0; h < hosts; h++) {
            for (int what = 0; what <= 4; what++) {
                a.add((long) x.stand(3, h, what));
                a.add((long) x.stand(9, h, what));
            }
        }
        a.add((long) x.best(2));
        a.add((long) x.which());
        a.add((long) x.calm(3, true));
        a.add(x.seed(0L));
        whatCanBeUndone(x, a);
        for (int slot = 0; slot < 2; slot++) {
            a.add((long) x.again(slot));
            policyOf(x, a, 3, 9);
        }
        whatTheTextTells(x, a);
        a.add((long) x.unsee());
        return a;
    }

    private static void policyOf(SoftAsks x, List<Long> a, int from, int to) {
        for (int what = from; what <= to; what++) {
            a.add((long) x.about(what));
        }
    }

    private static void whatCanBeUndone(SoftAsks x, List<Long> a) {
        for (int i = 0; i < 15; i++) {
            int left = x.undo();
            a.add((long) left);
            if (left < 0) {
                return;
            }
            policyOf(x, a, 3, 8);
        }
    }

    /** Scenes whose text is to be seen leave it so that a 4 makes it a day. */
    private static void whatTheTextTells(SoftAsks x, List<Long> a) {
        a.add((long) x.write('4'));
        a.add((long) x.fault());
        a.add((long) x.day());
        policyOf(x, a, 0, 2);
        for (int what = 0; what <= 2; what++) {
            for (int h = 0; h < x.about(0); h++) {
                a.add((long) x.host(h, what));
            }
            for (int i = 0; i < x.about(1); i++) {
                a.add((long) x.ask(i, what));
            }
        }
        a.add((long) x.host(0, 4));
        a.add((long) x.wipe());
    }
}
