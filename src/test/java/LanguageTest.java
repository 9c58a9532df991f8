import java.io.IOException;
import java.lang.reflect.Constructor;
import java.lang.reflect.Field;
import java.lang.reflect.Method;
import java.lang.reflect.Modifier;
import java.nio.file.Files;
import java.nio.file.Path;
import java.util.ArrayList;
import java.util.List;
import java.util.Set;
import java.util.TreeSet;
import java.util.regex.Matcher;
import java.util.regex.Pattern;

/** The rules of LANGUAGE.md that can be seen from the text of the class, or by looking into it. */
public final class LanguageTest {
    private static final Path SOURCE = Path.of("src/main/java/FallTrials.java");
    private static final String FACE = "book clear count cut differs exact exactly fall fault feed fit found keep known "
        + "last least led make mend purse reason reasons run spoils stands start there thin thinness told trial tried "
        + "trouble where word";
    private static final Set<String> LIBRARY = Set.of("java.util.Arrays", "java.util.NoSuchElementException");
    private static final String[] FORBIDDEN = {"->", "::", "\\bsynchronized\\b", "\\bassert\\b", "\\bfinally\\b", "\\btry\\b",
        "\\bcatch\\b", "\\bwhile \\(true\\)", "\\bSystem\\b", "\\bThread\\b", "\\bhashCode\\b", "\\bequals\\b", "\\btoString\\b",
        "Exact\\(", "\\bdouble\\b", "\\bfloat\\b", "\\bprotected\\b", "\\bstatic\\s*\\{", "\\bvar\\b", "@SuppressWarnings"};

    private static int wrong;

    private LanguageTest() {
    }

    public static void main(String[] args) throws IOException {
        String text = Files.readString(SOURCE);
        String code = withoutTexts(text);
        signs(text);
        words(code);
        loops(code);
        methodLengths(code);
        face();
        insides();
        System.out.println(wrong == 0 ? "LanguageTest: the rules are kept" : "LanguageTest: " + wrong + " rules are not kept");
        if (wrong != 0) System.exit(1);
    }

    private static void need(boolean so, String rule) {
        if (!so) {
            wrong++;
            System.out.println("LanguageTest: " + rule);
        }
    }

    /** Comments and string constants blanked out, lines kept. */
    private static String withoutTexts(String text) {
        Matcher m = Pattern.compile("/\\*.*?\\*/|//[^\n]*|\"[^\"\n]*\"", Pattern.DOTALL).matcher(text);
        return m.replaceAll(found -> found.group().replaceAll("[^\n]", " "));
    }

    private static void signs(String text) {
        for (int i = 0; i < text.length(); i++) {
            char c = text.charAt(i);
            if (c != '\n' && (c < 32 || c > 126)) need(false, "a sign beyond ASCII at " + i);
        }
        need(!text.contains("package "), "no package line");
    }

    private static void words(String code) {
        for (String bad : FORBIDDEN) {
            Matcher m = Pattern.compile(bad).matcher(code);
            need(!m.find(), "forbidden: " + bad);
        }
        Matcher m = Pattern.compile("import ([\\w.]+);").matcher(code);
        List<String> imports = new ArrayList<>();
        while (m.find()) imports.add(m.group(1));
        need(LIBRARY.containsAll(imports), "imports: " + imports);
        m = Pattern.compile("new (\\w+)\\(\\)?").matcher(code);
        Set<String> made = new TreeSet<>();
        while (m.find()) made.add(m.group(1));
        made.removeAll(Set.of("Reader", "Works", "Book", "Numbers", "Trials", "Trace", "Clause", "FallLanes", "Course",
            "Support", "Purse", "NoSuchElementException"));
        need(made.isEmpty(), "objects of other classes: " + made);
    }

    /** Each loop has a condition. */
    private static void loops(String code) {
        Matcher m = Pattern.compile("\\bfor \\(([^;]*);([^;]*);").matcher(code);
        while (m.find()) need(!m.group(2).isBlank(), "a loop without an end: " + m.group());
        need(!Pattern.compile("\\bdo\\s*\\{").matcher(code).find(), "a do loop");
    }

    private static void methodLengths(String code) {
        String[] lines = code.split("\n");
        Pattern head = Pattern.compile("^( {4}| {8})(?! )[\\w\\[\\]<> ]+\\([^;]*\\)[\\w ]*\\{$");
        for (int i = 0; i < lines.length; i++) {
            Matcher m = head.matcher(lines[i]);
            if (!m.matches() || lines[i].contains(" class ")) continue;
            int end = i;
            while (end < lines.length && !lines[end].equals(m.group(1) + "}")) end++;
            need(end - i <= 60, "a method of more than sixty lines: " + lines[i].trim());
        }
    }

    private static void face() {
        Set<String> names = new TreeSet<>();
        for (Method m : FallTrials.class.getDeclaredMethods()) {
            if (Modifier.isPublic(m.getModifiers())) names.add(m.getName());
            else need(Modifier.isPrivate(m.getModifiers()), "neither public nor private: " + m);
        }
        need(String.join(" ", names).equals(FACE), "the face: " + names);
        for (Field f : FallTrials.class.getDeclaredFields()) {
            need(Modifier.isPrivate(f.getModifiers()) || f.getName().equals("NONE"), "a field that isn't private: " + f);
        }
        Constructor<?>[] made = FallTrials.class.getDeclaredConstructors();
        need(made.length == 1 && Modifier.isPublic(made[0].getModifiers()) && made[0].getParameterCount() == 0, "the constructor");
        need(Modifier.isFinal(FallTrials.class.getModifiers()), "the class is final");
    }

    private static void insides() {
        List<Class<?>> all = new ArrayList<>(List.of(FallTrials.class.getDeclaredClasses()));
        need(all.size() <= 12, "more than twelve classes inside");
        Set<String> faceNames = Set.of(FACE.split(" "));
        for (Class<?> c : all) {
            need(Modifier.isStatic(c.getModifiers()) && !Modifier.isPublic(c.getModifiers()), "a class inside: " + c);
        }
        all.add(FallTrials.class);
        for (Class<?> c : all) {
            int fields = 0;
            for (Field f : c.getDeclaredFields()) {
                if (!Modifier.isStatic(f.getModifiers())) fields++;
                else need(Modifier.isFinal(f.getModifiers()) && f.getType().isPrimitive(), "a static field: " + f);
            }
            need(fields <= 20, "more than twenty fields: " + c);
            for (Method m : c.getDeclaredMethods()) {
                need(m.getParameterCount() <= 7, "more than seven parameters: " + m);
                if (!Modifier.isPublic(m.getModifiers())) {
                    need(!faceNames.contains(m.getName()), "bears the name of a public one: " + m);
                }
            }
        }
    }
}
