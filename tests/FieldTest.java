import java.util.NoSuchElementException;

/** Promises 1 to 6, 23, 24 and 34: burrows, paths, traps, geese and accounts. */
public final class FieldTest {
    private static final Check CHECK = new Check();

    public static void main(String[] arguments) {
        newObject();
        dig();
        tread();
        grow();
        trap();
        flock();
        burrowOf();
        pathOf();
        account();
        gameEnds();
        CHECK.end("FieldTest");
    }

    private static void newObject() {
        FoxBurrows field = new FoxBurrows();
        int[] due = {0, 0, 0, 1, 0, 0, -1, -1, 0, 0, 0};
        for (int what = 0; what < due.length; what++) {
            CHECK.same("new: account " + what, field.account(what), due[what]);
        }
        CHECK.same("new: fault", field.faultPosition(), -1);
        CHECK.same("new: line", field.line(), 0);
        CHECK.fails("new: character", IndexOutOfBoundsException.class, () -> field.character(0));
        CHECK.fails("new: reason", NoSuchElementException.class, () -> field.reason(0));
        CHECK.fails("new: undo", IllegalStateException.class, field::undo);
        CHECK.fails("new: restore", IllegalStateException.class, field::restore);
        CHECK.fails("new: now", NoSuchElementException.class, field::now);
    }

    private static void dig() {
        FoxBurrows field = new FoxBurrows();
        for (int i = 0; i < 8; i++) {
            CHECK.same("dig", field.dig(), i);
        }
        String before = Check.picture(field);
        CHECK.refused("a ninth burrow", field, 2, 8, field::dig);
        CHECK.same("unchanged", Check.picture(field), before);
    }

    private static void tread() {
        FoxBurrows field = Check.field(3, "01");
        String before = Check.picture(field);
        CHECK.refused("no one", field, 3, 3, () -> field.tread(3, 9));
        CHECK.refused("no one, below", field, 3, -1, () -> field.tread(-1, -2));
        CHECK.refused("no other", field, 3, -7, () -> field.tread(2, -7));
        CHECK.refused("no burrow before both are one", field, 3, 5, () -> field.tread(5, 5));
        CHECK.refused("both are one", field, 4, 2, () -> field.tread(2, 2));
        CHECK.refused("there already", field, 5, 0, () -> field.tread(0, 1));
        CHECK.refused("there already, turned", field, 5, 0, () -> field.tread(1, 0));
        CHECK.refused("greatest number", field, 3, Integer.MAX_VALUE, () -> field.tread(Integer.MAX_VALUE, 0));
        CHECK.refused("lowest number", field, 3, Integer.MIN_VALUE, () -> field.tread(0, Integer.MIN_VALUE));
        CHECK.same("unchanged", Check.picture(field), before);
        CHECK.same("tread", field.tread(2, 1), 1);
        sixteenPaths();
    }

    private static void sixteenPaths() {
        FoxBurrows field = Check.field(8, "01 02 03 04 05 06 07 12 13 14 15 16 17 23 24");
        CHECK.same("the 16th path", field.tread(5, 2), 15);
        String before = Check.picture(field);
        CHECK.refused("a 17th path", field, 2, 16, () -> field.tread(2, 6));
        CHECK.refused("already before too many", field, 5, 0, () -> field.tread(2, 5));
        CHECK.refused("one before too many", field, 4, 6, () -> field.tread(6, 6));
        CHECK.same("unchanged", Check.picture(field), before);
    }

    private static void grow() {
        FoxBurrows field = Check.field(4, "01 21 23 30");
        String before = Check.picture(field);
        CHECK.refused("no one", field, 3, 4, () -> field.grow(4, 5));
        CHECK.refused("no other", field, 3, -1, () -> field.grow(0, -1));
        CHECK.refused("no path", field, 6, 2, () -> field.grow(2, 0));
        CHECK.refused("no path, turned", field, 6, 0, () -> field.grow(0, 2));
        CHECK.refused("no path to itself", field, 6, 3, () -> field.grow(3, 3));
        CHECK.same("unchanged", Check.picture(field), before);
        CHECK.same("grow, turned", field.grow(1, 2), 3);
        CHECK.same("later paths", Check.picture(field).endsWith(" 0-1 2-3 3-0"), true);
        CHECK.refused("grown over", field, 6, 2, () -> field.grow(2, 1));
        CHECK.same("again", field.tread(1, 2), 3);
        CHECK.same("the last path", field.grow(1, 2), 3);
        CHECK.same("the first path", field.grow(0, 1), 2);
        CHECK.same("paths", Check.picture(field).endsWith(" 2-3 3-0"), true);
    }

    private static void trap() {
        FoxBurrows field = Check.field(3, "01");
        String before = Check.picture(field);
        CHECK.refused("no burrow", field, 3, 3, () -> field.trap(3, true));
        CHECK.refused("no burrow, below", field, 3, -1, () -> field.trap(-1, false));
        CHECK.refused("none already", field, 5, 0, () -> field.trap(2, false));
        CHECK.same("unchanged", Check.picture(field), before);
        CHECK.same("a trap", field.trap(2, true), 1);
        CHECK.same("two traps", field.trap(0, true), 2);
        CHECK.refused("a trap already", field, 5, 0, () -> field.trap(0, true));
        CHECK.same("filled", field.trap(2, false), 1);
        CHECK.same("which", field.burrowOf(0, 2) + " " + field.burrowOf(2, 2), "1 0");
        CHECK.same("far away", Check.thrownBy(() -> field.trap(32, true)), "java.lang.UnsupportedOperationException");
    }

    private static void flock() {
        FoxBurrows field = Check.field(3, "01");
        CHECK.refused("none", field, 1, 0, () -> field.flock(0));
        CHECK.refused("three", field, 1, 0, () -> field.flock(3));
        CHECK.refused("below", field, 1, 0, () -> field.flock(-1));
        CHECK.refused("one already", field, 5, 0, () -> field.flock(1));
        CHECK.same("two", field.flock(2), 1);
        CHECK.same("account", field.account(3), 2);
        CHECK.refused("two already", field, 5, 0, () -> field.flock(2));
        CHECK.same("one", field.flock(1), 2);
    }

    private static void burrowOf() {
        FoxBurrows field = Check.field(4, "01 21 23 30");
        field.trap(1, true);
        CHECK.same("paths of 0", field.burrowOf(0, 0), 2);
        CHECK.same("upward of 0", field.burrowOf(0, 1), 2);
        CHECK.same("paths of 2", field.burrowOf(2, 0), 2);
        CHECK.same("upward of 2", field.burrowOf(2, 1), 1);
        CHECK.same("upward of 3", field.burrowOf(3, 1), 0);
        CHECK.same("trap", field.burrowOf(1, 2), 1);
        CHECK.same("no trap", field.burrowOf(2, 2), 0);
        CHECK.fails("no burrow", IndexOutOfBoundsException.class, () -> field.burrowOf(4, 0));
        CHECK.fails("below", IndexOutOfBoundsException.class, () -> field.burrowOf(-1, 0));
        CHECK.fails("burrow before what", IndexOutOfBoundsException.class, () -> field.burrowOf(4, 4));
        CHECK.fails("what above", IllegalArgumentException.class, () -> field.burrowOf(3, 4));
        CHECK.fails("what below", IllegalArgumentException.class, () -> field.burrowOf(3, -1));
        winsOfFox();
    }

    /** On 0-1 a goose on 2 never moves; one on the other burrow of the path is stuck, but then so is the fox. */
    private static void winsOfFox() {
        FoxBurrows field = Check.field(3, "01");
        CHECK.same("wins on 0", field.burrowOf(0, 3), 3);
        CHECK.same("wins on 1", field.burrowOf(1, 3), 3);
        CHECK.same("wins on 2", field.burrowOf(2, 3), 1);
    }

    private static void pathOf() {
        FoxBurrows field = Check.field(3, "20 12");
        CHECK.same("one", field.pathOf(0, false), 2);
        CHECK.same("other", field.pathOf(0, true), 0);
        CHECK.same("second", field.pathOf(1, false) + " " + field.pathOf(1, true), "1 2");
        CHECK.fails("no path", IndexOutOfBoundsException.class, () -> field.pathOf(2, true));
        CHECK.fails("below", IndexOutOfBoundsException.class, () -> field.pathOf(-1, false));
        field.grow(2, 0);
        CHECK.same("moved up", field.pathOf(0, false), 1);
        CHECK.fails("grown over", IndexOutOfBoundsException.class, () -> field.pathOf(1, false));
    }

    private static void account() {
        FoxBurrows field = Check.field(8, "01 12 23 34");
        field.trap(7, true);
        CHECK.same("positions of one goose", field.account(4), 8 * 7 * 2);
        field.flock(2);
        CHECK.same("positions of two geese", field.account(4), 8 * 21 * 2);
        field.append('d');
        field.begin(field.position(0, 1, 2, true));
        field.begin(field.position(3, 0, 1, true));
        field.move(1, 2);
        int[] due = {8, 4, 1, 2, 336};
        for (int what = 0; what < due.length; what++) {
            CHECK.same("account " + what, field.account(what), due[what]);
        }
        CHECK.same("without a move", field.account(5), field.wonIn(0));
        CHECK.same("moves made", field.account(7), 1);
        CHECK.same("games", field.account(8), 2);
        CHECK.same("changes", field.account(9), 8);
        CHECK.same("characters", field.account(10), 1);
        CHECK.fails("above", IllegalArgumentException.class, () -> field.account(11));
        CHECK.fails("below", IllegalArgumentException.class, () -> field.account(-1));
        FoxBurrows small = Check.field(2, "");
        small.flock(2);
        CHECK.same("more pieces than burrows", small.account(4), 0);
    }

    private static void gameEnds() {
        String[] texts = {"d", "p0-2", "x0-1", "t2", "f3", "g2"};
        for (String text : texts) {
            FoxBurrows field = Check.field(4, "01 12");
            field.trap(3, true);
            field.begin(field.position(2, 0, -1, true));
            CHECK.same(text, Check.commands(field, text), 1);
            CHECK.same(text + " ends the game", field.account(7), -1);
            CHECK.fails(text + " ends the game", NoSuchElementException.class, field::now);
            CHECK.same(text + " keeps the count of games", field.account(8), 1);
        }
        FoxBurrows field = Check.field(4, "01 12");
        field.begin(field.position(2, 0, -1, true));
        CHECK.refused("refused", field, 5, 0, () -> field.tread(0, 1));
        CHECK.same("goes on if refused", field.account(7), 0);
    }
}
