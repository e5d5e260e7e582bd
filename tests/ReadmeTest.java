import java.io.IOException;
import java.nio.file.Files;
import java.nio.file.Path;
import java.util.List;

/** Runs what README.md shows: each row of it stands here with the answer that the page tells behind it. */
public final class ReadmeTest {
    private static final Check CHECK = new Check();
    private static List<String> page;

    public static void main(String[] arguments) throws IOException {
        page = Files.readAllLines(Path.of("README.md"));
        FoxBurrows field = new FoxBurrows();
        digsAndTreads(field);
        plays(field);
        types(field);
        namesEachCall();
        limits();
        CHECK.end("ReadmeTest");
    }

    private static void digsAndTreads(FoxBurrows field) {
        shown("for (int i = 0; i < 4; i++) {");
        shown("field.dig();");
        for (int i = 0; i < 4; i++) {
            field.dig();
        }
        shown("field.tread(0, 1);");
        field.tread(0, 1);
        shown("field.tread(1, 2);");
        field.tread(1, 2);
        shown("field.tread(2, 3);");
        field.tread(2, 3);
        shown("field.tread(3, 0);");
        field.tread(3, 0);
    }

    private static void plays(FoxBurrows field) {
        int start = field.position(3, 0, -1, false);
        answers("int start = field.position(3, 0, -1, false);", start, "486");
        answers("int outcome = field.positionOf(start, 5);", field.positionOf(start, 5), "1");
        answers("int moves = field.positionOf(start, 6);", field.positionOf(start, 6), "7");
        shown("field.begin(start);");
        field.begin(start);
        answers("int made = field.play(3);", field.play(3), "3");
        CHECK.same("the line", Check.line(field), "3f2 0g1 2f3");
        answers("int length = field.line();", field.line(), "11: of \"3f2 0g1 2f3\"");
        answers("char sign = field.character(1);", field.character(1), "f");
        answers("int left = field.undo();", field.undo(), "7");
    }

    private static void types(FoxBurrows field) {
        String text = "d;p4-0;b486;m3>1";
        shown("for (char typed : \"" + text + "\".toCharArray()) {");
        CHECK.fails("the text", UnsupportedOperationException.class, () -> Check.commands(field, text));
        answers("int why = field.reason(0);", field.reason(0), "10");
        answers("int detail = field.reason(1);", field.reason(1), "1");
        answers("int command = field.reason(2);", field.reason(2), "3");
        answers("int burrows = field.account(0);", field.account(0), "4");
    }

    /** The table of the page has each method of the class, once. */
    private static void namesEachCall() {
        for (java.lang.reflect.Method method : FoxBurrows.class.getDeclaredMethods()) {
            if (java.lang.reflect.Modifier.isPublic(method.getModifiers())) {
                String name = "`" + method.getName() + "`";
                long rows = page.stream().filter(row -> row.startsWith("| `") && row.contains(name)).count();
                CHECK.same("rows of the table with " + name, rows, 1L);
            }
        }
    }

    private static void limits() {
        boolean isTold = String.join(" ", page).contains(
            "8 burrows, 16 paths, 2 geese, 40 moves in a game, 60 characters in a text and 8 changes to undo");
        CHECK.same("the limits stand on the page", isTold, true);
        CHECK.same("how to run the tests stands on the page", page.contains("bash .ci/run"), true);
    }

    private static void shown(String code) {
        CHECK.same("the page shows " + code, page.stream().anyMatch(row -> row.strip().startsWith(code)), true);
    }

    /** A row of the page with an answer behind it, which ends with ":" or goes on behind a word. */
    private static void answers(String code, Object got, String told) {
        String row = page.stream().map(String::strip).filter(each -> each.startsWith(code)).findFirst().orElse("");
        String comment = row.replaceFirst("^.*?// ", "");
        CHECK.same("the page tells behind " + code, comment.startsWith(told), true);
        CHECK.same(code, String.valueOf(got), told.replaceFirst(":.*", ""));
    }
}
