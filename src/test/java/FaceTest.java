import java.io.IOException;
import java.lang.management.ManagementFactory;
import java.lang.reflect.Constructor;
import java.lang.reflect.Field;
import java.lang.reflect.Method;
import java.lang.reflect.Modifier;
import java.nio.file.Files;
import java.nio.file.Path;
import java.util.Set;
import java.util.TreeSet;
import java.util.regex.Matcher;
import java.util.regex.Pattern;

/** The public face of the document, and those rules of LANGUAGE.md that can be read off. */
public final class FaceTest {
    private static final String[] FACE = {
        "int letter(int)", "int blank()", "int fault()", "int plane()", "int curve(int,int)", "int as(int,int)",
        "int point(int,int)", "int stack(int)", "int cell(int,int,int)", "int neighbours(int,int)",
        "int put(int,int,int)", "int take(int)", "int move(int,int,int)", "int change(int,int)", "int mirror()",
        "int sentence(int,int,int,int)", "int pieces(int,int)", "int loose()", "int see(int,int,int,int)",
        "int forget()", "int dice(int)", "int latest(int)", "int image()", "int restore()", "int count(int)",
        "long digest()"};
    private static final Path SOURCE = Path.of("src/main/java/CellPlane.java");
    private static int wrong = 0;

    public static void main(String[] args) throws IOException {
        checkFace();
        checkClasses();
        checkWords(Files.readString(SOURCE));
        checkRoom();
        System.out.println(wrong == 0 ? "the face and the rules are kept" : wrong + " rules are broken");
        if (wrong != 0) {
            System.exit(1);
        }
    }

    private static void check(boolean holds, String what) {
        if (!holds) {
            wrong++;
            System.out.println("broken: " + what);
        }
    }

    private static void checkFace() {
        check(Modifier.isFinal(CellPlane.class.getModifiers()), "the class is final");
        Set<String> publics = new TreeSet<>();
        Set<String> privates = new TreeSet<>();
        for (Method method : CellPlane.class.getDeclaredMethods()) {
            StringBuilder text = new StringBuilder();
            for (Class<?> type : method.getParameterTypes()) {
                text.append(text.length() == 0 ? "" : ",").append(type);
            }
            String told = method.getReturnType() + " " + method.getName() + "(" + text + ")";
            if (Modifier.isPublic(method.getModifiers())) {
                publics.add(told);
            } else {
                check(Modifier.isPrivate(method.getModifiers()), told + " is public or private");
                privates.add(method.getName());
            }
        }
        check(publics.equals(new TreeSet<>(Set.of(FACE))), "the public methods are " + publics);
        for (String told : FACE) {
            String name = told.substring(told.indexOf(' ') + 1, told.indexOf('('));
            check(!privates.contains(name), "no private method is named " + name);
        }
        Set<String> constants = new TreeSet<>();
        for (Field field : CellPlane.class.getDeclaredFields()) {
            if (!Modifier.isPrivate(field.getModifiers())) {
                constants.add(field.getName());
            }
        }
        check(constants.equals(Set.of("NONE", "UNKNOWN", "OUTSIDE", "STATE", "FULL")), "constants are " + constants);
        for (Constructor<?> constructor : CellPlane.class.getDeclaredConstructors()) {
            check(constructor.getParameterCount() == 0, "the constructor takes nothing");
        }
    }

    private static void checkClasses() {
        Class<?>[] inside = CellPlane.class.getDeclaredClasses();
        check(inside.length <= 12, "there are few classes");
        for (Class<?> one : inside) {
            check(Modifier.isStatic(one.getModifiers()), one + " is static");
            for (Method method : one.getDeclaredMethods()) {
                check(method.getParameterCount() <= 7, method + " takes at most seven");
            }
            int fields = 0;
            for (Field field : one.getDeclaredFields()) {
                boolean isStatic = Modifier.isStatic(field.getModifiers());
                fields += isStatic ? 0 : 1;
                check(!isStatic || Modifier.isFinal(field.getModifiers()), field + " is final");
            }
            check(fields <= 20, one + " has few fields");
        }
    }

    private static void checkWords(String source) {
        String code = source.replaceAll("(?s)/\\*.*?\\*/", "").replaceAll("//[^\n]*", "");
        Matcher found = Pattern.compile(
                "\\b(throw|throws|try|catch|synchronized|assert|import|package|double|float|Object|var)\\b|->|::")
                .matcher(code);
        while (found.find()) {
            check(false, "the word " + found.group());
        }
        check(source.chars().allMatch(c -> c < 128), "plain letters alone");
        check(!code.contains("\""), "no texts are needed");
        String calls = "";
        Matcher library = Pattern.compile("\\b(Math|Integer|Long|System|Arrays|String)\\.(\\w+)").matcher(code);
        while (library.find()) {
            calls = library.group();
            check(Set.of("Math.max", "Math.min", "Math.floorDiv", "Math.floorMod", "Integer.compare", "Long.compare")
                    .contains(calls), "the library's " + calls);
        }
        // All that is made is made with the house: new stands in fields, and in loops of constructors.
        Matcher made = Pattern.compile("(?m)^.*\\bnew\\b.*$").matcher(code);
        while (made.find()) {
            String line = made.group().trim();
            check(line.matches("(private )?final .* = new .*;") || line.matches("(all|roots)\\[\\w+\\] = new \\w+\\(\\);"),
                    "made outside of a constructor: " + line);
        }
    }

    /** Calls make no objects: what a run takes of the room is what its houses take. */
    private static void checkRoom() {
        com.sun.management.ThreadMXBean beans = (com.sun.management.ThreadMXBean) ManagementFactory.getThreadMXBean();
        long id = Thread.currentThread().getId();
        work(new CellPlane());
        beans.getThreadAllocatedBytes(id);
        CellPlane x = new CellPlane();
        long before = beans.getThreadAllocatedBytes(id);
        work(x);
        long taken = beans.getThreadAllocatedBytes(id) - before;
        check(taken < 4096, "calls take no room, but took " + taken);
    }

    private static void work(CellPlane x) {
        for (int code : new int[] {'p', '+', '0', '-', '9', ',', 'f', '+', '0', '+', '9'}) {
            x.letter(code);
        }
        x.fault();
        x.plane();
        x.put(0, 1, -8);
        x.put(4, 1, 8);
        // With the calls ahead these are 505, and a house is used for 512 at most.
        for (int i = 0; i < 49; i++) {
            x.move(i % 4, i % 10, -i % 10);
            x.neighbours(i % x.count(2), i % 3);
            x.sentence(i % 2, i / 2 % 2, i / 4 % 2, 1234);
            x.pieces(i % 2, 4444);
            x.loose();
            x.see(i % 4, 1, 1, 1);
            x.image();
            x.restore();
            x.digest();
        }
    }
}
