import java.lang.reflect.InvocationTargetException;
import java.lang.reflect.Method;
import java.util.ArrayList;
import java.util.Comparator;
import java.util.List;

/** Where an object is tried: calls told as texts, the states that several tests begin with, and what shows of them. */
abstract class Bench {
    static final int BAD = LayerVault.BAD;
    static final int NONE = LayerVault.NONE;
    static final int FULL = LayerVault.FULL;
    static final int LEAST = Integer.MIN_VALUE;
    static final int MOST = Integer.MAX_VALUE;
    private static final int CALLS = 512;

    final Due due = new Due();
    LayerVault x;
    private int calls;

    /** The tests of single sentences that a class has. */
    static List<Method> sentenceTests(Class<?> owner) {
        List<Method> tests = new ArrayList<>();
        for (Method method : owner.getDeclaredMethods()) {
            if (method.isAnnotationPresent(Says.class)) {
                tests.add(method);
            }
        }
        tests.sort(Comparator.comparingInt((Method m) -> m.getAnnotation(Says.class).promise())
            .thenComparing(Method::getName));
        return tests;
    }

    void runSentenceTests() {
        List<Method> tests = sentenceTests(getClass());
        for (Method test : tests) {
            Says says = test.getAnnotation(Says.class);
            fresh("promise " + says.promise() + ", \"" + says.words() + "\", " + test.getName());
            invoke(test, this);
        }
        System.out.println(tests.size() + " tests of single sentences");
        due.end();
    }

    void fresh(String about) {
        due.about(about);
        renew();
    }

    void renew() {
        x = new LayerVault();
        calls = 0;
    }

    int callsMade() {
        return calls;
    }

    /** Makes a call that is told as a text, such as "put(3, 10, 0)": its answer, a boolean as 1 or 0. */
    long ask(String call) {
        int open = call.indexOf('(');
        String inside = call.substring(open + 1, call.indexOf(')')).trim();
        String[] texts = inside.isEmpty() ? new String[0] : inside.split(",");
        Object[] numbers = new Object[texts.length];
        for (int i = 0; i < texts.length; i++) {
            numbers[i] = number(texts[i].trim());
        }
        calls++;
        if (calls > CALLS) {
            due.is("the call " + call, "call " + calls + " of the object", "one of its " + CALLS);
        }
        Object answer = invoke(methodOfTheFace(call.substring(0, open)), x, numbers);
        return answer instanceof Boolean yes ? (yes ? 1 : 0) : answer instanceof Integer n ? n : Long.MIN_VALUE;
    }

    private static int number(String text) {
        return text.equals("LEAST") ? LEAST : text.equals("MOST") ? MOST : Integer.parseInt(text);
    }

    private static Method methodOfTheFace(String name) {
        for (Method method : LayerVault.class.getDeclaredMethods()) {
            if (method.getName().equals(name)) {
                return method;
            }
        }
        throw new IllegalArgumentException("no method " + name);
    }

    private Object invoke(Method method, Object on, Object... numbers) {
        try {
            return method.invoke(on, numbers);
        } catch (InvocationTargetException thrown) {
            due.is(method.getName(), "throwing " + thrown.getCause(), "no throw");
            return "thrown";
        } catch (IllegalAccessException hidden) {
            throw new IllegalStateException(hidden);
        }
    }

    void is(String call, long want) {
        due.is(call, ask(call), want);
    }

    void is(String call, boolean want) {
        is(call, want ? 1 : 0);
    }

    void allAre(long want, String... asked) {
        for (String call : asked) {
            is(call, want);
        }
    }

    /** Commits one batch that gives each key the value 100 * round + key. */
    void write(int round, int... keys) {
        for (int i = 0; i < keys.length; i++) {
            is("put(" + keys[i] + ", " + (100 * round + keys[i]) + ", 0)", i + 1);
        }
        is("commit()", keys.length);
    }

    /** Commits one value with a life. */
    void writeFor(int key, int value, int life) {
        is("put(" + key + ", " + value + ", " + life + ")", 1);
        is("commit()", 1);
    }

    /** Commits one batch of deletions. */
    void erase(int... keys) {
        for (int i = 0; i < keys.length; i++) {
            is("delete(" + keys[i] + ")", i + 1);
        }
        is("commit()", keys.length);
    }

    void tablesAre(int level0, int level1, int level2) {
        is("table(0, -1, 0)", level0);
        is("table(1, -1, 0)", level1);
        is("table(2, -1, 0)", level2);
    }

    /** How many entries the tables of a level have, from the first one on. */
    void entriesAre(int level, int... sizes) {
        is("table(" + level + ", -1, 0)", sizes.length);
        for (int k = 0; k < sizes.length; k++) {
            is("table(" + level + ", " + k + ", 0)", sizes[k]);
        }
    }

    /** So many segments of two records of six writes each: first these, then of the keys 12 .. 17. */
    void fillSegments(int segments, int[]... first) {
        for (int record = 0; record < 2 * segments; record++) {
            write(record + 1, record < first.length ? first[record] : new int[] {12, 13, 14, 15, 16, 17});
        }
        is("segment(-1, 0)", segments);
        is("segment(" + (segments - 1) + ", 1)", 14);
    }

    static int[] keys(int... keys) {
        return keys;
    }

    /** Something in every place: three levels, memtable, batch, two snapshots, two segments, time and probes. */
    void makeBusy() {
        is("tick(7)", 7);
        write(1, 0, 5, 9, 31);
        is("flush()", 4);
        allAre(0, "merge(0)", "merge(1)");
        write(2, 5, 6);
        is("take()", 0);
        is("flush()", 2);
        is("merge(0)", 0);
        write(3, 5, 8);
        is("flush()", 2);
        writeFor(7, 77, 4);
        erase(9);
        is("take()", 1);
        write(4, 0, 1);
        is("put(2, 2, 3)", 1);
        is("delete(31)", 2);
        is("put(2, 3, 0)", 3);
        is("get(-1, 8)", 308);
        is("probes()", 1);
    }

    /** After the same beginning, all shows the same whether the calls are made or not. */
    void changesNothing(Runnable beginning, Runnable refused) {
        comeToTheSame(beginning, () -> { }, refused);
    }

    /** After the same beginning, all shows the same after the one calls and after the others. */
    void comeToTheSame(Runnable beginning, Runnable some, Runnable others) {
        beginning.run();
        some.run();
        String want = allThatShows();
        renew();
        beginning.run();
        others.run();
        due.is("all that shows then", allThatShows(), want);
    }

    /** What every other call tells of the object, which is changed by them in the end: it is to be renewed then. */
    String allThatShows() {
        StringBuilder shown = new StringBuilder();
        show(shown, "probes()", "tick(0)", "look(0)", "look(1)", "look(2)", "look(3)", "look(4)");
        for (int k = 0, segments = (int) ask("segment(-1, 0)"); k < segments; k++) {
            show(shown, "segment(" + k + ", 0)", "segment(" + k + ", 1)", "segment(" + k + ", 2)");
        }
        for (int level = 0; level < 3; level++) {
            for (int k = 0, tables = (int) ask("table(" + level + ", -1, 0)"); k < tables; k++) {
                for (int what = 0; what < 5; what++) {
                    show(shown, "table(" + level + ", " + k + ", " + what + ")");
                }
            }
        }
        for (int snapshot = -1; snapshot < 3; snapshot++) {
            showKeys(shown, snapshot);
        }
        show(shown, "commit()", "look(0)", "look(1)", "look(2)");
        showKeys(shown, -1);
        show(shown, "tick(3)", "crash(1)", "look(0)", "look(1)");
        showKeys(shown, -1);
        return shown.toString();
    }

    private void show(StringBuilder shown, String... asked) {
        for (String call : asked) {
            shown.append(call).append(' ').append(ask(call)).append("; ");
        }
    }

    private void showKeys(StringBuilder shown, int snapshot) {
        long key = ask("scan(" + snapshot + ", 0, 0)");
        for (int k = 1; k <= 32 && key >= 0; k++) {
            shown.append(key).append(':').append(ask("get(" + snapshot + ", " + key + ")")).append(' ');
            key = ask("scan(" + snapshot + ", 0, " + k + ")");
        }
        shown.append("of ").append(snapshot).append(": ").append(key).append("; ");
    }
}
