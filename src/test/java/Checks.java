import java.lang.reflect.InvocationTargetException;
import java.lang.reflect.Method;
import java.lang.reflect.Modifier;
import java.util.Arrays;
import java.util.Comparator;

/** What the tests with answers worked out by hand have in common; they extend it. */
abstract class Checks {
    static final long BAD = -1;
    static final long NONE = -2;
    /** A test that goes wrong everywhere need not say it everywhere. */
    private static final int MOST_TOLD = 8;
    private static String test = "";
    private static int told;
    private static int checked;
    private static int wrong;

    /** Runs each static method of a class that is not private and takes nothing, and tells how it ended. */
    static void runAll(Class<?> tests) {
        Method[] methods = tests.getDeclaredMethods();
        Arrays.sort(methods, Comparator.comparing(Method::getName));
        int ran = 0;
        for (Method method : methods) {
            int kind = method.getModifiers();
            if (Modifier.isStatic(kind) && !Modifier.isPrivate(kind) && method.getParameterCount() == 0) {
                run(method);
                ran++;
            }
        }
        System.out.println(ran + " tests, " + checked + " checks, " + wrong + " wrong");
        System.exit(wrong > 0 || ran == 0 ? 1 : 0);
    }

    private static void run(Method method) {
        test = method.getName();
        told = 0;
        try {
            method.invoke(null);
        } catch (InvocationTargetException e) {
            fail("threw " + e.getCause());
        } catch (IllegalAccessException e) {
            fail("cannot be run: " + e);
        }
    }

    private static void fail(String what) {
        wrong++;
        told++;
        if (told <= MOST_TOLD) {
            System.out.println(test + ": " + what);
        }
    }

    static void is(String what, long got, long want) {
        checked++;
        if (got != want) {
            fail(what + ": got " + got + ", due is " + want);
        }
    }

    static void same(String what, String got, String want) {
        checked++;
        if (!got.equals(want)) {
            fail(what + ": got " + got + ", due is " + want);
        }
    }

    static void yes(String what, boolean got) {
        is(what, got ? 1 : 0, 1);
    }

    static void no(String what, boolean got) {
        is(what, got ? 1 : 0, 0);
    }

    static void collect(Road x, String text) {
        for (char sign : text.toCharArray()) {
            yes("unit '" + sign + "' of " + text, x.unit(sign));
        }
    }

    static int read(Road x, String text) {
        collect(x, text);
        return x.read();
    }

    /** A new object with the templates of a good text. */
    static Road with(int templates, String text) {
        Road x = new Road();
        is("read " + text, read(x, text), templates);
        return x;
    }

    static Road with(String text) {
        return with(1, text);
    }

    static void corner(Road x, int k, int axis, long up, long low) {
        String what = "corner " + k + " axis " + axis;
        is(what + " sign", x.corner(k, axis, -1), Long.signum(up));
        is(what + " up", x.corner(k, axis, 0), Math.abs(up));
        is(what + " low", x.corner(k, axis, 1), low);
        is(what + " behind the last", x.corner(k, axis, 2), 0);
        is(what + " behind the last", x.corner(k, axis, 3), 0);
    }

    static void corner(Road x, int k, long off, long level) {
        corner(x, k, 0, off, 1);
        corner(x, k, 1, level, 1);
    }

    static void area(Road x, boolean cut, long up, long low) {
        String what = cut ? "cut" : "fill";
        is(what + " sign", x.area(cut, -1), Long.signum(up));
        is(what + " up", x.area(cut, 0), up);
        is(what + " low", x.area(cut, 1), low);
        is(what + " part 2", x.area(cut, 2), 0);
        is(what + " part 3", x.area(cut, 3), 0);
    }

    static void level(Road x, int off, long up, long low) {
        String what = "level at " + off;
        is(what + " sign", x.level(off, -1), Long.signum(up));
        is(what + " up", x.level(off, 0), Math.abs(up));
        is(what + " low", x.level(off, 1), low);
        is(what + " part 2", x.level(off, 2), 0);
    }

    static void noLevel(Road x, int off) {
        is("no level at " + off, x.level(off, -1), NONE);
        is("no level at " + off, x.level(off, 0), BAD);
        is("no level at " + off, x.level(off, 1), BAD);
        is("no level at " + off, x.level(off, -2), BAD);
    }

    static void volume(Road x, boolean cut, long up) {
        String what = "volume of " + (cut ? "cut" : "fill");
        is(what + " sign", x.volume(cut, -1), Long.signum(up));
        is(what + " up", x.volume(cut, 0), up);
        is(what + " low", x.volume(cut, 1), 1);
        is(what + " part 2", x.volume(cut, 2), 0);
        is(what + " part 3", x.volume(cut, 3), 0);
    }

    /** All that may be asked of a section but what the land of now decides, to be held against a later picture. */
    static String picture(Road x) {
        StringBuilder picture = new StringBuilder();
        int corners = x.count(2);
        picture.append(corners).append(" corners");
        for (int k = 0; k < corners; k++) {
            picture.append(", ").append(x.code(k)).append(" at");
            for (int axis = 0; axis <= 1; axis++) {
                for (int part = -1; part <= 1; part++) {
                    picture.append(' ').append(x.corner(k, axis, part));
                }
            }
        }
        int choices = x.count(5);
        picture.append("; ? took");
        for (int k = 0; k < choices; k++) {
            picture.append(' ').append(x.condition(k));
        }
        picture.append("; ended ").append(x.ended(-1)).append(' ').append(x.ended(1)).append("; areas");
        for (int part = -1; part <= 1; part++) {
            picture.append(' ').append(x.area(true, part)).append(' ').append(x.area(false, part));
        }
        picture.append("; levels");
        for (int off = -2; off <= 2; off++) {
            picture.append(' ').append(x.level(off, -1)).append(' ').append(x.level(off, 0));
        }
        return picture.toString();
    }

    /** Each question about a section, where there is none. */
    static void noSection(Road x) {
        is("no corners", x.count(2), 0);
        is("no ? met", x.count(5), 0);
        for (int axis = 0; axis <= 1; axis++) {
            is("no corner", x.corner(0, axis, -1), NONE);
            is("no corner", x.corner(0, axis, 0), BAD);
            is("no corner", x.corner(0, axis, 1), BAD);
            is("no corner", x.corner(0, axis, -2), BAD);
        }
        is("no code", x.code(0), BAD);
        no("not ended", x.ended(-1) || x.ended(1));
        no("not passed", x.passed(-1) || x.passed(1));
        is("no condition", x.condition(0), BAD);
        for (int part = -2; part <= 3; part++) {
            is("no cut, part " + part, x.area(true, part), part == -1 ? NONE : BAD);
            is("no fill, part " + part, x.area(false, part), part == -1 ? NONE : BAD);
            is("no level, part " + part, x.level(0, part), part == -1 ? NONE : BAD);
        }
        is("nothing to keep", x.keep(100000), BAD);
    }
}
