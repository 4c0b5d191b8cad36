import java.lang.reflect.InvocationTargetException;
import java.lang.reflect.Method;
import java.util.TreeSet;

/** What the tests of the document's sentences share; each of them is one method, marked with Says. */
abstract class Sentences {
    static final int NONE = -1, UNKNOWN = -101, OUTSIDE = -102, STATE = -103, FULL = -104;
    static final int LOW = Integer.MIN_VALUE, HIGH = Integer.MAX_VALUE;
    static final String MIXED = "p1,k1,s4,e2,r3,p2";
    static final String SEVEN_EASY = "e0,e0,e0,e0,e0,e0,e0";

    private static final Checks checks = new Checks();

    /** Runs every test of the class; fails if one checks nothing, or one of these promises has none. */
    static void run(Class<?> tests, int firstPromise, int lastPromise) throws IllegalAccessException {
        TreeSet<String> places = new TreeSet<>();
        for (Method method : tests.getDeclaredMethods()) {
            Says says = method.getAnnotation(Says.class);
            if (says != null) {
                places.add(says.at());
                checks.head(says.at() + " \"" + says.words() + "\": ");
                int before = checks.done();
                call(method);
                checks.holds("has a check", checks.done() > before);
            }
        }
        checks.head("");
        for (int promise = firstPromise; promise <= lastPromise; promise++) {
            checks.holds("promise " + promise + " has a test", places.contains("promise " + promise));
        }
        checks.end(tests.getName());
    }

    private static void call(Method method) throws IllegalAccessException {
        try {
            method.invoke(null);
        } catch (InvocationTargetException thrown) {
            checks.holds("threw nothing, but " + thrown.getCause(), false);
        }
    }

    static void due(String call, long got, long want) {
        checks.due(call, got, want);
    }

    /** Numbers that name none of so many persons, the nearest and the farthest. */
    static int[] noneOf(int many) {
        return new int[] {LOW, -1, many, many + 1, many + 32, HIGH};
    }

    /** Each person draws the name that stands at his place; -1 draws none. */
    static HatNames drawn(String company, int... names) {
        HatNames hat = Checks.company(company);
        for (int person = 0; person < names.length; person++) {
            if (names[person] >= 0) {
                hat.take(person, names[person]);
            }
        }
        return hat;
    }

    /** What person() tells of each, against what is due. */
    static void each(HatNames hat, int what, int... want) {
        for (int person = 0; person < want.length; person++) {
            due("person(" + person + ", " + what + ")", hat.person(person, what), want[person]);
        }
    }
}
