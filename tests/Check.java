import java.util.Objects;

/** Compares answers with those that are due, and ends a test with 1 if one is wrong. */
final class Check {
    private int wrong;
    private int done;

    /** A call of the class under test. */
    interface Call {
        Object make();
    }

    void same(String what, Object got, Object due) {
        done++;
        if (!Objects.equals(got, due)) {
            wrong++;
            System.out.println(what + ": answered " + got + ", due is " + due);
        }
    }

    void fails(String what, Class<? extends RuntimeException> due, Call call) {
        same(what, thrownBy(call), due.getName());
    }

    /** A refused call: it throws, and the reason is kept with its detail and the index 0. */
    void refused(String what, FoxBurrows field, int why, int detail, Call call) {
        fails(what, UnsupportedOperationException.class, call);
        reason(what, field, why, detail, 0);
    }

    void reason(String what, FoxBurrows field, int why, int detail, int command) {
        String got = field.reason(0) + " " + field.reason(1) + " " + field.reason(2);
        same(what + ": reason", got, why + " " + detail + " " + command);
    }

    static String thrownBy(Call call) {
        try {
            return "nothing, but answers " + call.make();
        } catch (RuntimeException thrown) {
            return thrown.getClass().getName();
        }
    }

    /** Appends a text and carries it out. */
    static int commands(FoxBurrows field, String text) {
        type(field, text);
        return field.commands();
    }

    static void type(FoxBurrows field, String text) {
        for (int i = 0; i < text.length(); i++) {
            field.append(text.charAt(i));
        }
    }

    static String line(FoxBurrows field) {
        int length = field.line();
        StringBuilder text = new StringBuilder();
        for (int i = 0; i < length; i++) {
            text.append(field.character(i));
        }
        return text.toString();
    }

    /** A field with so many burrows, and paths told as in "01 12". */
    static FoxBurrows field(int burrows, String paths) {
        FoxBurrows field = new FoxBurrows();
        for (int i = 0; i < burrows; i++) {
            field.dig();
        }
        for (int i = 0; i + 1 < paths.length(); i += 3) {
            field.tread(paths.charAt(i) - '0', paths.charAt(i + 1) - '0');
        }
        return field;
    }

    /** The number of a position, as the terms of the document tell it. */
    static int number(int fox, int first, int second, boolean isGeese) {
        return 162 * fox + 18 * first + 2 * (second + 1) + (isGeese ? 1 : 0);
    }

    /** All that the accounts, the burrows, the paths and the game tell, in one text. */
    static String picture(FoxBurrows field) {
        StringBuilder text = new StringBuilder();
        for (int what = 0; what <= 10; what++) {
            text.append(field.account(what)).append(' ');
        }
        for (int burrow = 0; burrow < field.account(0); burrow++) {
            for (int what = 0; what <= 3; what++) {
                text.append(field.burrowOf(burrow, what)).append(',');
            }
        }
        for (int path = 0; path < field.account(1); path++) {
            text.append(' ').append(field.pathOf(path, false)).append('-').append(field.pathOf(path, true));
        }
        if (field.account(7) >= 0) {
            text.append(" at ").append(field.now());
        }
        return text.toString();
    }

    void end(String name) {
        System.out.println(name + ": " + (done - wrong) + " of " + done + " answers are as due");
        if (wrong > 0 || done == 0) {
            System.exit(1);
        }
    }
}
