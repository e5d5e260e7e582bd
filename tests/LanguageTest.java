import java.io.IOException;
import java.lang.reflect.Constructor;
import java.lang.reflect.Field;
import java.lang.reflect.Member;
import java.lang.reflect.Method;
import java.lang.reflect.Modifier;
import java.nio.file.Files;
import java.nio.file.Path;
import java.util.ArrayList;
import java.util.List;
import java.util.Set;
import java.util.TreeSet;
import java.util.regex.Matcher;
import java.util.regex.Pattern;

/** The document's face, and those rules of the language that a look at the source can tell. */
public final class LanguageTest {
    private static final Check CHECK = new Check();

    public static void main(String[] arguments) throws IOException {
        face(Files.readString(Path.of("../shared/DOC.md")));
        members();
        String source = Files.readString(Path.of("src/main/java/FoxBurrows.java"));
        words(withoutTexts(source));
        lengths(source);
        room();
        CHECK.end("LanguageTest");
    }

    /** The lines of the document's face, and those that the class has. */
    private static void face(String document) {
        Matcher block = Pattern.compile("```java\n(.*?)```", Pattern.DOTALL).matcher(document);
        CHECK.same("a face in the document", block.find(), true);
        Set<String> due = new TreeSet<>();
        for (String row : block.group(1).split("\n")) {
            if (row.startsWith("    public ")) {
                due.add(row.strip().replaceAll("(int|char|boolean) \\w+(?=[,)])", "$1").replace(";", ""));
            }
        }
        Set<String> got = new TreeSet<>();
        for (Method method : FoxBurrows.class.getDeclaredMethods()) {
            if (Modifier.isPublic(method.getModifiers())) {
                got.add(plain(method.toString()));
            }
        }
        for (Constructor<?> constructor : FoxBurrows.class.getDeclaredConstructors()) {
            got.add(plain(constructor.toString()));
        }
        CHECK.same("the face", got, due);
    }

    private static String plain(String member) {
        return member.replaceAll("java\\.(lang|util)\\.|FoxBurrows\\.", "").replace(",", ", ").replace(",  ", ", ");
    }

    private static void members() {
        List<Member> own = new ArrayList<>();
        own.addAll(List.of(FoxBurrows.class.getDeclaredFields()));
        Set<String> face = new TreeSet<>();
        for (Method method : FoxBurrows.class.getDeclaredMethods()) {
            if (Modifier.isPublic(method.getModifiers())) {
                face.add(method.getName());
            } else {
                own.add(method);
            }
        }
        for (Member member : own) {
            CHECK.same(member + " is private", Modifier.isPrivate(member.getModifiers()), true);
        }
        List<Class<?>> classes = new ArrayList<>(List.of(FoxBurrows.class.getDeclaredClasses()));
        CHECK.same("classes at most", classes.size() <= 11, true);
        for (Class<?> inside : classes) {
            CHECK.same(inside + " is static", Modifier.isStatic(inside.getModifiers()), true);
            CHECK.same(inside + " is not public", Modifier.isPublic(inside.getModifiers()), false);
        }
        classes.add(FoxBurrows.class);
        for (Class<?> each : classes) {
            names(each, face);
        }
    }

    private static void names(Class<?> each, Set<String> face) {
        int fields = 0;
        for (Field field : each.getDeclaredFields()) {
            boolean isStatic = Modifier.isStatic(field.getModifiers());
            fields += isStatic ? 0 : 1;
            CHECK.same(field + " is final if static", !isStatic || Modifier.isFinal(field.getModifiers()), true);
        }
        CHECK.same(each + " has few fields", fields <= 20, true);
        for (Method method : each.getDeclaredMethods()) {
            CHECK.same(method + " has few parameters", method.getParameterCount() <= 7, true);
            if (!Modifier.isPublic(method.getModifiers())) {
                CHECK.same(method + " has a name of its own", face.contains(method.getName()), false);
            }
        }
    }

    /** The source without comments and texts, which may say what they like. */
    private static String withoutTexts(String source) {
        return source.replaceAll("(?s)/\\*.*?\\*/", " ").replaceAll("//[^\n]*", " ").replaceAll("\"[^\"\n]*\"", "T")
            .replaceAll("'[^'\n]'", "0");
    }

    private static void words(String source) {
        String[] none = {"->", "::", "\\btry\\b", "\\bcatch\\b", "\\bfinally\\b", "\\bsynchronized\\b", "\\bassert\\b",
            "\\bprotected\\b", "\\binstanceof\\b", "\\bequals\\b", "\\bhashCode\\b", "\\btoString\\b", "T *\\+", "\\+ *T\\b",
            "\\bSystem\\.(?!arraycopy)", "\\bThread\\b", "\\bRandom\\b", "\\w+Exact\\b", "\\bpackage\\b", "\\bvar\\b",
            "\\bfloat (?!drawn)", "while *\\(true", "for *\\(;"};
        for (String word : none) {
            Matcher found = Pattern.compile(word).matcher(source);
            CHECK.same("without " + word, found.find() ? found.group() : "", "");
        }
        Matcher imports = Pattern.compile("import [^;]*;").matcher(source);
        while (imports.find()) {
            CHECK.same("import", imports.group(), "import java.util.NoSuchElementException;");
        }
        Matcher thrown = Pattern.compile("throw\\b[^;]*;").matcher(source);
        while (thrown.find()) {
            CHECK.same(thrown.group(), thrown.group().matches("throw new \\w+Exception\\(T\\);"), true);
        }
    }

    /** A method ends with the first brace that stands as far in as its head. */
    private static void lengths(String source) {
        String[] rows = source.split("\n");
        for (int i = 0; i < rows.length; i++) {
            CHECK.same("row " + (i + 1) + " is short", rows[i].length() <= 120, true);
            if (!rows[i].matches(" {4}( {4})?(public |private |static )*[\\w\\[\\]]+( \\w+)?\\(.*\\{")) {
                continue;
            }
            String end = " ".repeat(rows[i].indexOf(rows[i].strip())) + "}";
            int last = i;
            while (last < rows.length && !rows[last].equals(end)) {
                last++;
            }
            CHECK.same("method in row " + (i + 1) + " is short", last - i < 60, true);
        }
    }

    /** An object is small, and its calls make nothing new that is kept. */
    private static void room() {
        com.sun.management.ThreadMXBean beans =
            (com.sun.management.ThreadMXBean) java.lang.management.ManagementFactory.getThreadMXBean();
        long start = beans.getCurrentThreadAllocatedBytes();
        FoxBurrows field = Check.field(8, "01 12 23 34 45 56 67 02 13 24 35 46 57 07");
        field.flock(2);
        long made = beans.getCurrentThreadAllocatedBytes();
        for (int i = 0; i < 120; i++) {
            field.wouldChange(i % 8, (i + 3) % 8);
            field.trap(0, i % 2 == 0);
            field.outcomeAgain(field.position(7, 0, 1, true));
        }
        long used = beans.getCurrentThreadAllocatedBytes();
        System.out.println("bytes of an object: " + (made - start) + ", of its calls: " + (used - made));
        CHECK.same("an object has few bytes", made - start < 100_000, true);
        CHECK.same("calls make little", used - made < 50_000, true);
    }
}
