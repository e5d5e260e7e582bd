import java.util.NoSuchElementException;

/** Promises 26 to 29: texts of commands, their faults, and reasons. */
public final class TextTest {
    private static final Check CHECK = new Check();

    public static void main(String[] arguments) {
        append();
        allCommands();
        refusedCommands();
        faults();
        reason();
        longest();
        CHECK.end("TextTest");
    }

    private static void append() {
        FoxBurrows field = new FoxBurrows();
        for (int i = 1; i <= 60; i++) {
            CHECK.same("append", field.append((char) (i * 1000)), i);
        }
        CHECK.fails("full", IllegalStateException.class, () -> field.append('d'));
        CHECK.same("stays", field.account(10), 60);
        CHECK.fails("no text", IllegalArgumentException.class, field::commands);
        CHECK.same("empty afterwards", field.append('d'), 1);
    }

    private static void allCommands() {
        FoxBurrows field = new FoxBurrows();
        CHECK.same("field", Check.commands(field, "d;d;d;d;p0-1;p1-2;p2-3;p3-0;t2;f2;x3-0;p0-3;g2;g1"), 14);
        CHECK.same("one change", field.account(9), 1);
        CHECK.same("empty afterwards", field.account(10), 0);
        CHECK.same("no fault", field.faultPosition(), -1);
        CHECK.same("game", Check.commands(field, "b0486;a03;u;m2>3"), 4);
        CHECK.same("line", Check.line(field).length(), 11);
        CHECK.same("the last path", field.pathOf(3, false) + " " + field.pathOf(3, true), "0 3");
        CHECK.same("undone at once", field.undo(), 1);
        CHECK.same("games", field.account(8), 0);
        CHECK.same("all undone", field.undo(), 0);
        CHECK.same("burrows", field.account(0), 0);
    }

    private static void refusedCommands() {
        FoxBurrows field = Check.field(4, "01 12 23 30");
        field.begin(486);
        field.play(2);
        String before = Check.picture(field);
        refusedText(field, "d;p4-0;b486;m3>3", 3, 10, 1);
        refusedText(field, "d;d;d;d;d", 4, 2, 8);
        refusedText(field, "u;u;u", 2, 11, 0);
        refusedText(field, "g2;u", 1, 8, 0);
        refusedText(field, "t9", 0, 3, 9);
        refusedText(field, "p3-3", 0, 4, 3);
        refusedText(field, "x2-0", 0, 6, 2);
        refusedText(field, "f0", 0, 5, 0);
        refusedText(field, "g0", 0, 1, 0);
        refusedText(field, "b9999", 0, 7, 9999);
        refusedText(field, "a41", 0, 1, 0);
        refusedText(field, "a40;a1", 1, 9, 7);
        CHECK.same("unchanged", Check.picture(field), before);
        CHECK.refused("not of a text", field, 4, 2, () -> field.tread(2, 2));
        CHECK.same("undo after refused texts", field.undo(), 7);
        CHECK.same("the play is undone", field.account(7), 0);
    }

    private static void refusedText(FoxBurrows field, String text, int index, int why, int detail) {
        Check.type(field, text);
        CHECK.fails(text, UnsupportedOperationException.class, field::commands);
        CHECK.reason(text, field, why, detail, index);
        CHECK.same(text + " has no fault", field.faultPosition(), -1);
        CHECK.same(text + " is gone", field.account(10), 0);
    }

    private static void faults() {
        Object[][] cases = {{"", 0}, {";", 0}, {"q", 0}, {" d", 0}, {"d;", 2}, {"d;;", 2}, {"d d", 1}, {"dd", 1},
            {"p", 1}, {"p0", 2}, {"p0-", 3}, {"p0-x", 3}, {"p00-1", 2}, {"p0>1", 2}, {"p0-12", 4}, {"x1-", 3}, {"x1-1d", 4},
            {"t", 1}, {"t-", 1}, {"t12", 2}, {"f", 1}, {"f01", 2}, {"g", 1}, {"g22", 2}, {"b", 1}, {"b;", 1},
            {"b12345", 5}, {"b1-", 2}, {"m", 1}, {"m1", 2}, {"m1-2", 2}, {"m1>", 3}, {"m1>22", 4}, {"a", 1}, {"a123", 3},
            {"a1;", 3}, {"u1", 1}, {"u;u;D", 4}, {"d\0", 1}, {"\0", 0}, {"d;\u0664", 2}, {"t\u0664", 1}};
        FoxBurrows field = Check.field(2, "01");
        field.begin(19 + 162 - 19);
        CHECK.refused("a reason", field, 4, 1, () -> field.tread(1, 1));
        String before = Check.picture(field);
        for (Object[] row : cases) {
            String text = (String) row[0];
            Check.type(field, text);
            CHECK.fails(text, IllegalArgumentException.class, field::commands);
            CHECK.same(text + " fault", field.faultPosition(), row[1]);
            CHECK.same(text + " is gone", field.account(10), 0);
        }
        CHECK.same("unchanged", Check.picture(field), before);
        CHECK.reason("the reason stays", field, 4, 1, 0);
        CHECK.same("a good one", Check.commands(field, "d"), 1);
        CHECK.same("no fault then", field.faultPosition(), -1);
    }

    private static void reason() {
        FoxBurrows field = Check.field(2, "");
        CHECK.fails("nothing refused", NoSuchElementException.class, () -> field.reason(1));
        CHECK.fails("what first", IllegalArgumentException.class, () -> field.reason(3));
        CHECK.refused("refused", field, 6, 1, () -> field.grow(1, 0));
        CHECK.fails("what above", IllegalArgumentException.class, () -> field.reason(3));
        CHECK.fails("what below", IllegalArgumentException.class, () -> field.reason(-1));
        field.dig();
        field.undo();
        CHECK.reason("stays", field, 6, 1, 0);
    }

    private static void longest() {
        FoxBurrows field = new FoxBurrows();
        Check.commands(field, "d;d;d;p0-1;p1-2");
        StringBuilder text = new StringBuilder("g2");
        for (int i = 0; i < 19; i++) {
            text.append(i % 2 == 0 ? ";g1" : ";g2");
        }
        CHECK.same("59 characters", text.length(), 59);
        CHECK.same("20 commands", Check.commands(field, text.toString()), 20);
        StringBuilder many = new StringBuilder("d");
        for (int i = 0; i < 29; i++) {
            many.append(";u");
        }
        Check.type(field, many.toString());
        CHECK.fails("30 commands are read", UnsupportedOperationException.class, field::commands);
        CHECK.reason("the second is refused", field, 8, 0, 1);
        Check.type(field, many + ";");
        CHECK.fails("60 characters", IllegalArgumentException.class, field::commands);
        CHECK.same("fault at the end", field.faultPosition(), 60);
    }
}
