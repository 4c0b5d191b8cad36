import java.lang.reflect.Constructor;
import java.lang.reflect.Field;
import java.lang.reflect.Method;
import java.lang.reflect.Modifier;
import java.nio.file.Files;
import java.nio.file.Path;
import java.util.Set;
import java.util.TreeSet;
import java.util.regex.Matcher;
import java.util.regex.Pattern;

/** The face of the document, and those rules of LANGUAGE.md that can be read off the source. */
public final class LanguageTest {
    private static final String SOURCE = "src/main/java/HatNames.java";
    private static final Set<String> FACE = Set.of(
            "int letter(int)", "int blank()", "int fault()", "int company()", "int person(int,int)",
            "int as(int,int)", "int take(int,int)", "int back(int)", "int exchange(int,int)", "int all()",
            "int bar(int,int)", "int change(int,int,int)", "int ways(int)", "int way(int,int)", "int hint()",
            "int likely()", "int rings(int)", "int see(int,int,boolean)", "int forget()",
            "int drawn(int,int,int)", "int image()", "int restore()", "int count(int)", "long digest()");
    private static final Set<String> CONSTANTS = Set.of("NONE", "UNKNOWN", "OUTSIDE", "STATE", "FULL");

    private static final Checks checks = new Checks();

    public static void main(String[] args) throws Exception {
        face();
        nestedClasses();
        words(bare(Files.readString(Path.of(SOURCE))));
        checks.end("LanguageTest");
    }

    private static void face() {
        Set<String> found = new TreeSet<>();
        for (Method method : HatNames.class.getDeclaredMethods()) {
            if (!Modifier.isPrivate(method.getModifiers()) && !method.isSynthetic()) {
                checks.holds("public: " + method, Modifier.isPublic(method.getModifiers()));
                checks.holds("not static: " + method, !Modifier.isStatic(method.getModifiers()));
                String whole = method.toString();
                found.add(method.getReturnType() + " " + whole.substring(whole.lastIndexOf('.') + 1));
            }
        }
        checks.holds("rule 1: the methods are " + found, found.equals(FACE));
        Set<String> constants = new TreeSet<>();
        for (Field field : HatNames.class.getDeclaredFields()) {
            if (!Modifier.isPrivate(field.getModifiers())) {
                constants.add(field.getName());
            }
            checks.holds("rule 5: " + field,
                    !Modifier.isStatic(field.getModifiers()) || Modifier.isFinal(field.getModifiers()));
        }
        checks.holds("rule 1: the constants are " + constants, constants.equals(CONSTANTS));
        Constructor<?>[] constructors = HatNames.class.getDeclaredConstructors();
        checks.due("rule 1: constructors", constructors.length, 1);
        checks.due("rule 1: its parameters", constructors[0].getParameterCount(), 0);
        checks.holds("rule 1: public", Modifier.isPublic(constructors[0].getModifiers()));
        checks.holds("rule 1: final", Modifier.isFinal(HatNames.class.getModifiers()));
    }

    private static void nestedClasses() {
        Set<String> faceNames = new TreeSet<>();
        for (String method : FACE) {
            faceNames.add(method.substring(method.indexOf(' ') + 1, method.indexOf('(')));
        }
        Class<?>[] nested = HatNames.class.getDeclaredClasses();
        checks.holds("rule 11: some twelve classes", nested.length <= 12);
        for (Class<?> each : nested) {
            checks.holds("rule 2: static " + each, Modifier.isStatic(each.getModifiers()));
            checks.holds("rule 1: not public " + each, !Modifier.isPublic(each.getModifiers()));
            for (Method method : each.getDeclaredMethods()) {
                checks.holds("rule 1: name of " + method, !faceNames.contains(method.getName()));
                checks.holds("rule 11: parameters of " + method, method.getParameterCount() <= 7);
            }
            for (Field field : each.getDeclaredFields()) {
                checks.holds("rule 5: " + field,
                        !Modifier.isStatic(field.getModifiers()) || Modifier.isFinal(field.getModifiers()));
            }
        }
    }

    /** The source without comments and without what stands in texts. */
    private static String bare(String source) {
        String code = source.replaceAll("(?s)/\\*.*?\\*/", " ").replaceAll("//[^\n]*", " ");
        return code.replaceAll("\"[^\"]*\"", "\"\"");
    }

    private static void words(String code) {
        for (String word : new String[] {"throw", "throws", "try", "catch", "finally", "synchronized", "assert",
                "package", "Object", "System\\.(?!arraycopy)\\w+", "\\w+Exact", "Random", "Thread", "double",
                "float", "native", "volatile", "transient", "protected", "hashCode", "toString"}) {
            Matcher found = Pattern.compile("\\b" + word + "\\b").matcher(code);
            checks.holds("no word " + word, !found.find());
        }
        checks.holds("rule 2: no lambda", !code.contains("->"));
        checks.holds("rule 2: no method reference", !code.contains("::"));
        Matcher imports = Pattern.compile("import\\s+([\\w.*]+);").matcher(code);
        while (imports.find()) {
            checks.holds("rule 4: import " + imports.group(1), imports.group(1).equals("java.util.Arrays"));
        }
        Matcher made = Pattern.compile("(?m)^(.*)\\bnew\\b").matcher(code);
        while (made.find()) {
            String ahead = made.group(1).trim();
            checks.holds("the room: made once an object, " + ahead,
                    ahead.matches("(private )?final \\w+\\[\\] \\w+ =") || ahead.matches("\\w+ ="));
        }
    }
}
