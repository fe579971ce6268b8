import java.lang.reflect.InvocationTargetException;
import java.lang.reflect.Method;
import java.util.Arrays;

/** What the tests of the project share: answers that are due, calls by name, planes that are read. */
abstract class Checks {
    static final int NONE = -1, UNKNOWN = -101, OUTSIDE = -102, STATE = -103, FULL = -104;
    static final int LEAST = Integer.MIN_VALUE, MOST = Integer.MAX_VALUE;
    private static String sentence = "";
    private static int asked = 0, wrong = 0;

    /** Which words of the document the answers from here on hold. */
    static void about(String words) {
        sentence = words;
    }

    static void due(String what, long got, long want) {
        asked++;
        if (got != want) {
            wrong++;
            System.out.println(sentence + ": " + what + " answered " + got + ", due is " + want);
        }
    }

    static void finish() {
        System.out.println(asked + " answers, " + wrong + " of them not as due");
        if (wrong != 0 || asked == 0) {
            System.exit(1);
        }
    }

    static int write(CellPlane x, String text) {
        int letters = x.count(6);
        for (int i = 0; i < text.length(); i++) {
            letters = x.letter(text.charAt(i));
        }
        return letters;
    }

    static CellPlane read(String text) {
        CellPlane x = new CellPlane();
        readAlso(x, text);
        return x;
    }

    static void readAlso(CellPlane x, String text) {
        write(x, text);
        due("plane() of " + text, x.plane(), (text.length() + 1) / 6);
    }

    static String told(String name, int... arguments) {
        String list = Arrays.toString(arguments);
        return name + "(" + list.substring(1, list.length() - 1) + ")";
    }

    static long call(CellPlane x, String name, int... arguments) {
        Class<?>[] types = new Class<?>[arguments.length];
        Arrays.fill(types, int.class);
        try {
            Method method = CellPlane.class.getMethod(name, types);
            Object answer = method.invoke(x, Arrays.stream(arguments).boxed().toArray());
            return ((Number) answer).longValue();
        } catch (NoSuchMethodException | IllegalAccessException | InvocationTargetException e) {
            throw new IllegalStateException(told(name, arguments) + " cannot be called", e);
        }
    }

    static void dueOf(CellPlane x, long want, String name, int... arguments) {
        due(told(name, arguments), call(x, name, arguments), want);
    }
}
