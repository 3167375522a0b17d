import java.lang.reflect.Constructor;
import java.lang.reflect.Field;
import java.lang.reflect.Method;
import java.lang.reflect.Modifier;
import java.nio.charset.StandardCharsets;
import java.nio.file.Files;
import java.nio.file.Path;
import java.util.Arrays;
import java.util.Map;
import java.util.Set;
import java.util.TreeMap;
import java.util.TreeSet;
import java.util.regex.Matcher;
import java.util.regex.Pattern;

/** The rules of LANGUAGE.md that can be seen in the source and in the class; it is run from the project's root. */
public final class LanguageTest {
    private static final Due DUE = new Due("LanguageTest");

    private static final String[] FACE = {"int fog(int,int)", "int listed(int)", "int keeper(int,int)", "int child(int,int)",
        "int of(int,int)", "int change(int,int,int)", "int ofChild(int,int)", "int teach(int,int,int)", "int hears(int,int)",
        "int go(int)", "int now(int)", "int ahead(int,int,int)", "int later(int,int,int)", "int learns(int,int)",
        "int taught(int)", "int weary(int,int)", "int seatFor(int,int)", "int quickFor(int,int,int)", "int kindFor(int,int)",
        "int fogFor(int,int,int)", "int hush(int)", "int fits(int,int)", "int kinds(int,int)", "int autumn(int)",
        "long odds(int,int,int,int)", "int seed(int)", "int feed(int,int)", "int wipe()", "int text()", "int hold(int,int)",
        "int as(int,int)", "int sheet(int,int,int)", "int write(int,int,int)", "int copy(int,int,int,int,int)", "int load(int)",
        "int judge(int)", "int image()", "int undo()", "int tear()", "int count(int)", "int status(int)"};

    private static final String[] FORBIDDEN = {"throw", "throws", "try", "catch", "finally", "synchronized", "assert", "package",
        "protected", "System\\.(?!arraycopy)\\w+", "Exact", "->", "::", "hashCode", "toString", "equals", "Random", "Thread",
        "String\\.format", "native", "volatile", "double", "float"};

    private static final Set<String> CALLS = new TreeSet<>(Arrays.asList("Math.max", "Math.min", "Math.abs", "Integer.bitCount",
        "Arrays.fill", "System.arraycopy"));

    public static void main(String[] args) throws Exception {
        face();
        source();
        DUE.end();
    }

    private static void face() {
        Set<String> names = new TreeSet<>();
        Set<String> found = new TreeSet<>();
        for (Method m : FogSchool.class.getDeclaredMethods()) {
            if (Modifier.isPublic(m.getModifiers())) {
                StringBuilder face = new StringBuilder(m.getReturnType() + " " + m.getName() + "(");
                for (Class<?> p : m.getParameterTypes()) {
                    face.append(face.charAt(face.length() - 1) == '(' ? "" : ",").append(p);
                }
                found.add(face.append(")").toString());
                names.add(m.getName());
                DUE.holds("1: " + m + " is the object's", !Modifier.isStatic(m.getModifiers()));
            }
        }
        DUE.holds("1: the face " + found, found.equals(new TreeSet<>(Arrays.asList(FACE))));
        for (Method m : FogSchool.class.getDeclaredMethods()) {
            boolean isPublic = Modifier.isPublic(m.getModifiers());
            DUE.holds("1: " + m, isPublic || Modifier.isPrivate(m.getModifiers()) && !names.contains(m.getName()));
        }
        for (Field f : FogSchool.class.getDeclaredFields()) {
            DUE.holds("1: " + f, Modifier.isPrivate(f.getModifiers()));
            DUE.holds("5: " + f, isObjects(f) || isConstant(f));
        }
        for (Constructor<?> c : FogSchool.class.getDeclaredConstructors()) {
            DUE.holds("1: " + c, Modifier.isPublic(c.getModifiers()) && c.getParameterCount() == 0);
        }
        DUE.holds("1: public and final", FogSchool.class.getModifiers() == (Modifier.PUBLIC | Modifier.FINAL));
        inside(names);
    }

    private static void inside(Set<String> faceNames) {
        Class<?>[] classes = FogSchool.class.getDeclaredClasses();
        DUE.holds("11: classes", classes.length < 12);
        for (Class<?> c : classes) {
            DUE.holds("2: " + c + " is static", Modifier.isStatic(c.getModifiers()) && !Modifier.isPublic(c.getModifiers()));
            int fields = 0;
            for (Field f : c.getDeclaredFields()) {
                fields += Modifier.isStatic(f.getModifiers()) ? 0 : 1;
                DUE.holds("5: " + f, isObjects(f) || isConstant(f));
            }
            DUE.holds("11: fields of " + c, fields <= 20);
            for (Method m : c.getDeclaredMethods()) {
                DUE.holds("11: parameters of " + m, m.getParameterCount() <= 7);
                DUE.holds("1: the name of " + m, !faceNames.contains(m.getName()));
            }
        }
    }

    private static boolean isObjects(Field f) {
        return !Modifier.isStatic(f.getModifiers());
    }

    private static boolean isConstant(Field f) {
        return Modifier.isFinal(f.getModifiers()) && Arrays.<Class<?>>asList(int.class, long.class, boolean.class, char.class,
            String.class, int[].class, long[].class, char[].class, byte[].class).contains(f.getType());
    }

    private static void source() throws Exception {
        String all = Files.readString(Path.of("src/main/java/FogSchool.java"), StandardCharsets.UTF_8);
        for (int i = 0; i < all.length(); i++) {
            if (all.charAt(i) > 126) {
                DUE.is("4: sign at " + i, all.charAt(i), 0);
            }
        }
        String code = all.replaceAll("(?s)/\\*.*?\\*/", " ").replaceAll("//[^\n]*", " ").replaceAll("\"[^\"]*\"", "\"\"");
        for (String word : FORBIDDEN) {
            String pattern = Character.isLetter(word.charAt(0)) ? "\\b" + word + "\\b" : word;
            DUE.holds("no " + word, !Pattern.compile(pattern).matcher(code).find());
        }
        Matcher library = Pattern.compile("\\b(Math|Integer|Long|Arrays|System|List|Character|Byte|Short)\\.\\w+").matcher(code);
        while (library.find()) {
            boolean isConstant = library.group().endsWith("_VALUE");
            DUE.holds("4: " + library.group(), !isConstant && CALLS.contains(library.group()));
        }
        Matcher imports = Pattern.compile("import ([^;]+);").matcher(code);
        while (imports.find()) {
            DUE.holds("4: " + imports.group(1), imports.group(1).equals("java.util.Arrays"));
        }
        methods(code);
        for (String name : BODIES.keySet()) {
            int deep = depth(name, 1);
            DUE.holds("11: " + name + " goes " + deep + " deep", deep <= 8);
        }
    }

    /** What stands in the methods of one name, of all classes together. */
    private static final Map<String, String> BODIES = new TreeMap<>();

    /** Every method begins at a line that ends in ") {" behind 4 or 8 blanks and ends at a brace behind as many. */
    private static void methods(String code) {
        String[] lines = code.split("\n");
        int begin = -1;
        String blanks = "";
        String name = "";
        for (int i = 0; i < lines.length; i++) {
            Matcher head = Pattern.compile("( {4}| {8})(?!if|for|while|switch|else)\\w[^(]*?(\\w+)\\(.*\\) \\{").matcher(lines[i]);
            if (begin < 0 && head.matches()) {
                begin = i;
                blanks = head.group(1);
                name = head.group(2);
            } else if (begin >= 0 && lines[i].equals(blanks + "}")) {
                DUE.holds("11: length of " + lines[begin].trim(), i - begin < 60);
                BODIES.merge(name, String.join(" ", Arrays.copyOfRange(lines, begin + 1, i)), String::concat);
                begin = -1;
            }
        }
        DUE.holds("all methods of the face are found", BODIES.size() > FACE.length && BODIES.containsKey("status"));
    }

    /** The class has no recursion; where there were one, this would go on until it is deeper than any calls may go. */
    private static int depth(String name, int level) {
        int deepest = level;
        Matcher calls = Pattern.compile("\\b(\\w+)\\(").matcher(BODIES.get(name));
        while (calls.find() && deepest <= 8) {
            if (BODIES.containsKey(calls.group(1))) {
                deepest = Math.max(deepest, depth(calls.group(1), level + 1));
            }
        }
        return deepest;
    }
}
