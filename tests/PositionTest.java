import java.util.NoSuchElementException;

/** Promises 11 to 22, 32 and 33: positions, what they are, and their moves. */
public final class PositionTest {
    private static final Check CHECK = new Check();

    public static void main(String[] arguments) {
        position();
        positionOfTwo();
        positionOf();
        outcomes();
        moveOf();
        order();
        best();
        after();
        ends();
        counts();
        longest();
        wouldChange();
        bestBurrow();
        means();
        traps();
        CHECK.end("PositionTest");
    }

    private static FoxBurrows square() {
        return Check.field(4, "01 12 23 30");
    }

    private static void position() {
        FoxBurrows field = square();
        CHECK.same("turn of the fox", field.position(3, 0, -1, false), 486);
        CHECK.same("turn of the geese", field.position(3, 0, -1, true), 487);
        CHECK.same("lowest", field.position(0, 1, -1, false), 18);
        int[][] wrong = {{4, 0, -1}, {-1, 0, -1}, {0, 4, -1}, {0, -1, -1}, {2, 2, -1}, {3, 0, 1}, {3, 0, 0}, {3, 0, -2},
            {Integer.MAX_VALUE, 0, -1}, {0, Integer.MIN_VALUE, -1}};
        for (int[] pieces : wrong) {
            CHECK.fails(java.util.Arrays.toString(pieces), NoSuchElementException.class,
                () -> field.position(pieces[0], pieces[1], pieces[2], true));
        }
    }

    private static void positionOfTwo() {
        FoxBurrows field = square();
        field.flock(2);
        CHECK.same("two geese", field.position(3, 0, 2, true), 486 + 6 + 1);
        int[][] wrong = {{3, 0, -1}, {3, 1, 0}, {3, 1, 1}, {1, 1, 2}, {2, 1, 2}, {3, 0, 4}, {3, -1, 0}, {4, 0, 1}};
        for (int[] pieces : wrong) {
            CHECK.fails(java.util.Arrays.toString(pieces), NoSuchElementException.class,
                () -> field.position(pieces[0], pieces[1], pieces[2], false));
        }
    }

    private static void positionOf() {
        FoxBurrows field = square();
        int[] due = {3, 0, -1, 0, 1, 1, 7};
        for (int what = 0; what < due.length; what++) {
            CHECK.same("what " + what, field.positionOf(486, what), due[what]);
        }
        CHECK.same("turn", field.positionOf(487, 3), 1);
        int[] none = {-1, 0, 1, 20, 19 + 2, 1296, 648, 163 + 17, 1295, Integer.MAX_VALUE, Integer.MIN_VALUE};
        for (int number : none) {
            CHECK.fails("position " + number, NoSuchElementException.class, () -> field.positionOf(number, 0));
            CHECK.fails("again " + number, NoSuchElementException.class, () -> field.outcomeAgain(number));
        }
        CHECK.fails("what 7", IllegalArgumentException.class, () -> field.positionOf(486, 7));
        CHECK.fails("what first", IllegalArgumentException.class, () -> field.positionOf(-5, -1));
        field.flock(2);
        CHECK.fails("one goose of two", NoSuchElementException.class, () -> field.positionOf(486, 0));
        CHECK.same("second", field.positionOf(492, 2), 2);
        CHECK.same("first", field.positionOf(492, 1), 0);
        CHECK.fails("turned order", NoSuchElementException.class, () -> field.positionOf(3 * 162 + 2 * 18 + 2, 1));
    }

    /** On the line 0-1-2 the goose on 0 with the turn and the fox on 2: 0>1, and the fox has no move. */
    private static void outcomes() {
        FoxBurrows field = Check.field(3, "01 12");
        told(field, field.position(2, 1, -1, false), 2, 0);
        told(field, field.position(2, 0, -1, true), 1, 1);
        told(field, field.position(2, 0, -1, false), 1, 1);
        told(field, field.position(1, 0, -1, true), 2, 0);
        told(field, field.position(0, 1, -1, true), 2, 2);
        told(field, field.position(0, 2, -1, false), 1, 1);
        told(field, field.position(0, 2, -1, true), 2, 0);
        told(field, field.position(1, 0, -1, false), 2, 2);
        told(field, field.position(1, 2, -1, false), 1, 1);
    }

    private static void told(FoxBurrows field, int position, int outcome, int moves) {
        CHECK.same(position + " outcome", field.positionOf(position, 5), outcome);
        CHECK.same(position + " moves", field.positionOf(position, 6), moves);
        CHECK.same(position + " outcome again", field.outcomeAgain(position), outcome);
    }

    private static void moveOf() {
        FoxBurrows field = square();
        int position = field.position(3, 1, -1, false);
        CHECK.same("first move", field.moveOf(position, 0, false) + ">" + field.moveOf(position, 0, true), "3>0");
        CHECK.same("second move", field.moveOf(position, 1, false) + ">" + field.moveOf(position, 1, true), "3>2");
        CHECK.fails("no third", NoSuchElementException.class, () -> field.moveOf(position, 2, true));
        CHECK.fails("place below", NoSuchElementException.class, () -> field.moveOf(position, -1, true));
        CHECK.fails("no position", NoSuchElementException.class, () -> field.moveOf(0, 0, true));
        CHECK.fails("without moves", NoSuchElementException.class,
            () -> field.moveOf(field.position(0, 3, -1, true), 0, true));
    }

    private static void order() {
        FoxBurrows field = Check.field(5, "04 02 14 12 01");
        field.flock(2);
        int position = field.position(3, 0, 1, true);
        StringBuilder moves = new StringBuilder();
        for (int place = 0; place < field.positionOf(position, 4); place++) {
            moves.append(field.moveOf(position, place, false)).append(field.moveOf(position, place, true)).append(' ');
        }
        CHECK.same("moves of two geese", moves.toString(), "02 04 12 14 ");
    }

    private static void best() {
        FoxBurrows field = square();
        CHECK.same("best", field.best(486), 26);
        CHECK.fails("no move", NoSuchElementException.class, () -> field.best(field.position(0, 3, -1, true)));
        CHECK.fails("no position", NoSuchElementException.class, () -> field.best(-1));
        FoxBurrows star = Check.field(6, "51 52 53 34");
        int lost = star.position(5, 0, -1, false);
        CHECK.same("of several the first", star.best(lost), 8 * 5 + 1);
    }

    private static void after() {
        FoxBurrows field = Check.field(5, "04 02 14 12 01");
        field.flock(2);
        int position = field.position(3, 0, 1, true);
        CHECK.same("in their order anew", field.after(position, 0, 4), field.position(3, 1, 4, false));
        CHECK.same("the second one", field.after(position, 1, 2), field.position(3, 0, 2, false));
        CHECK.fails("to the other goose", NoSuchElementException.class, () -> field.after(position, 0, 1));
        CHECK.fails("backward", NoSuchElementException.class, () -> field.after(position, 1, 0));
        CHECK.fails("the fox", NoSuchElementException.class, () -> field.after(position, 3, 0));
        CHECK.fails("from nowhere", NoSuchElementException.class, () -> field.after(position, -1, 4));
        CHECK.fails("to nowhere", NoSuchElementException.class, () -> field.after(position, 0, 8));
        CHECK.fails("from far", NoSuchElementException.class, () -> field.after(position, Integer.MAX_VALUE, 4));
        CHECK.fails("from where none is", NoSuchElementException.class, () -> field.after(position, 2, 4));
        CHECK.fails("no position", NoSuchElementException.class, () -> field.after(1, 0, 4));
        int fox = field.position(4, 1, 2, false);
        CHECK.same("the fox moves down", field.after(fox, 4, 0), field.position(0, 1, 2, true));
    }

    private static void ends() {
        FoxBurrows field = square();
        CHECK.same("ends", field.ends(486), 217);
        int over = field.position(0, 3, -1, true);
        CHECK.same("ends at once", field.ends(over), over);
        CHECK.fails("no position", NoSuchElementException.class, () -> field.ends(648));
    }

    private static void counts() {
        FoxBurrows field = square();
        CHECK.same("won by the fox", field.count(1, false), 12);
        CHECK.same("lost by the geese", field.count(2, true), 12);
        CHECK.same("drawn", field.count(0, true), 0);
        CHECK.same("lost by the fox", field.count(2, false), 0);
        CHECK.fails("outcome 3", IllegalArgumentException.class, () -> field.count(3, false));
        CHECK.fails("outcome -1", IllegalArgumentException.class, () -> field.count(-1, false));
        int all = 0;
        for (int moves = 0; moves <= field.account(6); moves++) {
            all += field.wonIn(moves);
        }
        CHECK.same("all are won or lost", all, 24);
        CHECK.same("none beyond", field.wonIn(field.account(6) + 1), 0);
        CHECK.same("in 0", field.wonIn(0), 5);
        CHECK.same("in 1", field.wonIn(1), 5);
        CHECK.same("far", field.wonIn(Integer.MAX_VALUE), 0);
        CHECK.fails("below 0", IllegalArgumentException.class, () -> field.wonIn(-1));
    }

    private static void longest() {
        FoxBurrows field = square();
        CHECK.same("longest", field.longest(false), 162);
        CHECK.same("in so many", field.positionOf(162, 6), 7);
        CHECK.fails("geese win nowhere", NoSuchElementException.class, () -> field.longest(true));
    }

    private static void wouldChange() {
        FoxBurrows field = Check.field(3, "01");
        String before = Check.picture(field);
        int due = changed(field, Check.field(3, "01 12"));
        CHECK.same("one more", field.wouldChange(2, 1), due);
        CHECK.same("one less", field.wouldChange(1, 0), changed(field, Check.field(3, "")));
        CHECK.same("unchanged", Check.picture(field), before);
        CHECK.fails("no one", IndexOutOfBoundsException.class, () -> field.wouldChange(3, 0));
        CHECK.fails("no other", IndexOutOfBoundsException.class, () -> field.wouldChange(0, -1));
        CHECK.fails("no burrow first", IndexOutOfBoundsException.class, () -> field.wouldChange(3, 3));
        CHECK.fails("both are one", IllegalArgumentException.class, () -> field.wouldChange(2, 2));
        seventeenthPath();
    }

    private static void seventeenthPath() {
        String paths = "43 74 54 24 64 32 52 27 65 53 67 62 75 70 15 36";
        FoxBurrows full = Check.field(8, paths);
        Model model = new Model();
        for (int i = 0; i < 8; i++) {
            model.dig();
        }
        for (int i = 0; i < paths.length(); i += 3) {
            model.tread(paths.charAt(i) - '0', paths.charAt(i + 1) - '0');
        }
        full.flock(2);
        model.flock(2);
        int sum = 0;
        for (int one = 0; one < 8; one++) {
            for (int other = 0; other < 8; other++) {
                if (one != other) {
                    CHECK.same("a path more or less", full.wouldChange(one, other), model.wouldChange(one, other));
                    sum += full.wouldChange(one, other);
                }
            }
        }
        CHECK.same("some would change", sum > 0, true);
        CHECK.same("paths stay", full.account(1), 16);
    }

    /** How many positions of three burrows and one goose are something else on another field. */
    private static int changed(FoxBurrows one, FoxBurrows other) {
        int found = 0;
        for (int fox = 0; fox < 3; fox++) {
            for (int goose = 0; goose < 3; goose++) {
                for (int turn = 0; turn < 2 && fox != goose; turn++) {
                    int position = one.position(fox, goose, -1, turn == 1);
                    found += one.positionOf(position, 5) == other.positionOf(position, 5) ? 0 : 1;
                }
            }
        }
        return found;
    }

    private static void bestBurrow() {
        FoxBurrows field = square();
        CHECK.same("best burrow", field.bestBurrow(486), 2);
        CHECK.fails("no position", NoSuchElementException.class, () -> field.bestBurrow(0));
        FoxBurrows bare = Check.field(3, "");
        CHECK.fails("no burrow wins", NoSuchElementException.class, () -> bare.bestBurrow(bare.position(2, 0, -1, false)));
        CHECK.same("its own, the lowest", bare.bestBurrow(bare.position(1, 0, -1, true)), 1);
        CHECK.same("below its own", bare.bestBurrow(bare.position(2, 0, -1, true)), 1);
        FoxBurrows trapped = Check.field(3, "01 12");
        trapped.trap(0, true);
        CHECK.same("a trap", trapped.bestBurrow(trapped.position(1, 2, -1, true)), 0);
    }

    private static void means() {
        FoxBurrows field = square();
        CHECK.same("mean", field.meanMoves(), 58.0 / 24.0);
        CHECK.same("drawn", field.drawn(), 0.0f);
        FoxBurrows empty = Check.field(1, "");
        CHECK.fails("no mean", ArithmeticException.class, empty::meanMoves);
        CHECK.fails("no share", ArithmeticException.class, empty::drawn);
        FoxBurrows line = Check.field(3, "01 12");
        int sum = 0;
        for (int moves = 0; moves <= line.account(6); moves++) {
            sum += moves * line.wonIn(moves);
        }
        CHECK.same("mean of the line", line.meanMoves(), (double) sum / line.account(4));
    }

    private static void traps() {
        FoxBurrows field = Check.field(3, "01 12");
        field.trap(1, true);
        CHECK.same("positions stay", field.account(4), 12);
        CHECK.same("nobody goes in", field.positionOf(field.position(2, 0, -1, true), 4), 0);
        int on = field.position(1, 0, -1, false);
        CHECK.same("moves away", field.after(on, 1, 2), field.position(2, 0, -1, true));
        CHECK.same("the goose moves away", field.positionOf(field.position(0, 1, -1, true), 4), 1);
    }
}
