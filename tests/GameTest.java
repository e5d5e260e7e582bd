import java.util.NoSuchElementException;

/** Promises 7 to 10, 25, 30 and 31: the game and its line. */
public final class GameTest {
    private static final Check CHECK = new Check();

    public static void main(String[] arguments) {
        begin();
        move();
        play();
        back();
        now();
        line();
        longGame();
        CHECK.end("GameTest");
    }

    private static FoxBurrows square() {
        return Check.field(4, "01 12 23 30");
    }

    private static void begin() {
        FoxBurrows field = square();
        int position = field.position(3, 1, -1, false);
        String before = Check.picture(field);
        int[] none = {0, -1, 648, 1296, Integer.MAX_VALUE, Integer.MIN_VALUE};
        for (int number : none) {
            CHECK.refused("no position " + number, field, 7, number, () -> field.begin(number));
        }
        CHECK.same("unchanged", Check.picture(field), before);
        CHECK.same("begin", field.begin(position), 2);
        field.move(3, 0);
        CHECK.same("in place of another", field.begin(487), 1);
        CHECK.same("games", field.account(8), 2);
        CHECK.same("no moves yet", field.account(7), 0);
        CHECK.refused("refused", field, 7, 1, () -> field.begin(1));
        CHECK.same("the game stays", field.now(), 487);
        CHECK.same("over at once", field.begin(field.position(0, 3, -1, true)), 0);
    }

    private static void move() {
        FoxBurrows field = square();
        CHECK.refused("no game", field, 8, 0, () -> field.move(9, 9));
        int start = field.position(3, 1, -1, false);
        field.begin(start);
        String before = Check.picture(field);
        CHECK.refused("no path", field, 10, 2, () -> field.move(3, 1));
        CHECK.refused("not its turn", field, 10, 2, () -> field.move(1, 2));
        CHECK.refused("out of range", field, 10, 2, () -> field.move(-1, 0));
        CHECK.refused("to the greatest", field, 10, 2, () -> field.move(3, Integer.MAX_VALUE));
        CHECK.refused("not with bits that turn round", field, 10, 2, () -> field.move(2, 8));
        CHECK.same("unchanged", Check.picture(field), before);
        CHECK.same("move", field.move(3, 0), 1);
        CHECK.same("now", field.now(), field.position(0, 1, -1, true));
        CHECK.same("a goose moves", field.move(1, 2), 2);
        field.move(0, 3);
        CHECK.refused("over", field, 9, 3, () -> field.move(7, 7));
        CHECK.same("moves stay", field.account(7), 3);
    }

    private static void play() {
        FoxBurrows field = square();
        CHECK.refused("none", field, 1, 0, () -> field.play(0));
        CHECK.refused("below", field, 1, 0, () -> field.play(-3));
        CHECK.refused("too many", field, 1, 0, () -> field.play(41));
        CHECK.refused("no game", field, 8, 0, () -> field.play(40));
        field.begin(486);
        CHECK.refused("range before game", field, 1, 0, () -> field.play(41));
        CHECK.same("three", field.play(3), 3);
        CHECK.same("until it is over", field.play(40), 4);
        CHECK.same("where best moves lead", field.now(), field.ends(486));
        CHECK.refused("over", field, 9, 7, () -> field.play(1));
        CHECK.same("moves stay", field.account(7), 7);
    }

    private static void back() {
        FoxBurrows field = square();
        CHECK.refused("no game", field, 8, 0, field::back);
        field.begin(486);
        CHECK.refused("no move", field, 11, 0, field::back);
        field.play(2);
        int behind = field.now();
        field.play(1);
        CHECK.same("back", field.back(), 2);
        CHECK.same("where it was", field.now(), behind);
        field.back();
        CHECK.same("to the first", field.back(), 0);
        CHECK.same("the first", field.now(), 486);
        CHECK.refused("no more", field, 11, 0, field::back);
        CHECK.same("the game stays", field.account(7), 0);
    }

    private static void now() {
        FoxBurrows field = square();
        CHECK.fails("no game", NoSuchElementException.class, field::now);
        field.begin(487);
        CHECK.same("now", field.now(), 487);
    }

    private static void line() {
        FoxBurrows field = Check.field(5, "04 43 01");
        CHECK.same("no game", Check.line(field), "");
        field.begin(field.position(3, 0, -1, false));
        CHECK.same("no move", Check.line(field), "");
        field.move(3, 4);
        CHECK.same("one move", Check.line(field), "3f4");
        field.move(0, 1);
        CHECK.same("before it is written", field.account(7), 2);
        CHECK.fails("the old line stays", IndexOutOfBoundsException.class, () -> field.character(3));
        CHECK.same("two moves", Check.line(field), "3f4 0g1");
        CHECK.fails("behind it", IndexOutOfBoundsException.class, () -> field.character(7));
        CHECK.fails("before it", IndexOutOfBoundsException.class, () -> field.character(-1));
        field.back();
        field.undo();
        field.dig();
        CHECK.same("the line stays", field.character(5), 'g');
        CHECK.same("nothing without a game", field.line(), 0);
        CHECK.fails("empty again", IndexOutOfBoundsException.class, () -> field.character(0));
    }

    /** Two geese on a line with a fox far off that can always move: no game is longer than the geese have steps. */
    private static void longGame() {
        int longest = 0;
        for (int position = 0; position < 1296; position++) {
            FoxBurrows field = wide();
            int number = position;
            if (Check.thrownBy(() -> field.begin(number)).startsWith("nothing")) {
                int due = field.positionOf(position, 6);
                int made = due == 0 ? 0 : field.play(40);
                CHECK.same(position + " is played as told", made, due);
                CHECK.same(position + " ends", field.ends(position), field.now());
                longest = Math.max(longest, made);
            }
        }
        CHECK.same("longest", longest, wide().account(6));
    }

    private static FoxBurrows wide() {
        FoxBurrows field = Check.field(8, "01 12 23 34 45 56 67 70 02 13 24 35 46 57");
        field.flock(2);
        return field;
    }
}
