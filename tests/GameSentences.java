import java.util.NoSuchElementException;
import java.util.function.Supplier;

/** Promises 7 to 10, 25, 30 and 31: what names a boundary of the game and its line. */
final class GameSentences {
    private static final String REFUSED = "Throws `UnsupportedOperationException` if it is refused for the reason ";
    private static final String LINE = "01 12";
    private static final String SQUARE = "01 12 23 30";
    /** On these two geese can take all 12 steps that there are, and the fox 13: no game is longer than 25 moves. */
    private static final String LONG = "01 12 23 34 45 56 67 02 13 24 35 46 57 03 14 25";
    private static final int LONG_START = 328;
    private static final String LONG_LINE = "2f3 1g2 3f1 2g3 1f2 0g1 2f0 1g2 0f1 3g4 1f0 2g3 0f1 4g5 1f0 3g4 0f1 5g6 1f0 4g5 "
        + "0f1 6g7 1f0 5g6 0f1";

    private final Sentences told;

    GameSentences(Sentences told) {
        this.told = told;
    }

    void all() {
        beginRefused();
        beginOfTwoGeese();
        beginInPlace();
        beginOver();
        movesOfBegun();
        noGame();
        gameOver();
        noSuchMove();
        overPath();
        onlyUpward();
        ontoTrap();
        moveReturns();
        moveOrder();
        fortyMoves();
        playRange();
        playUntil();
        playRefused();
        playBest();
        backRefused();
        backReturns();
        now();
        lineOf();
        lineInPlace();
        characterOf();
        emptyAtFirst();
    }

    private static FoxBurrows begun(int burrows, String paths, int position) {
        FoxBurrows field = Check.field(burrows, paths);
        field.begin(position);
        return field;
    }

    private static Supplier<FoxBurrows> game(int burrows, String paths, int position) {
        return () -> begun(burrows, paths, position);
    }

    private static FoxBurrows flocked(int burrows, String paths) {
        FoxBurrows field = Check.field(burrows, paths);
        field.flock(2);
        return field;
    }

    /** The game of so many of the 25 moves of the long line. */
    static FoxBurrows longGame(int moves) {
        FoxBurrows field = flocked(8, LONG);
        field.begin(LONG_START);
        for (int i = 0; i < moves; i++) {
            field.move(LONG_LINE.charAt(4 * i) - '0', LONG_LINE.charAt(4 * i + 2) - '0');
        }
        return field;
    }

    private void beginRefused() {
        told.of(7, REFUSED + "7; the reason is kept");
        told.of(7, "7, there is no such position: the number;");
        told.given(() -> Check.field(3, LINE));
        int[] none = {-1, 0, 17, 20, 344, 486, 1295, 1296, 1314, Integer.MAX_VALUE, Integer.MIN_VALUE};
        for (int number : none) {
            told.refused("no " + number, 7, number, field -> field.begin(number));
        }
        told.same("the lowest", Check.field(3, LINE).begin(18), 0);
        told.same("the lowest of the goose", Check.field(3, LINE).begin(19), 1);
        told.same("the highest", Check.field(3, LINE).begin(343), 0);
        told.given(game(3, LINE, 36));
        told.refused("none in place of a game", 7, 20, field -> field.begin(20));
        told.given(() -> Check.field(8, SQUARE));
        told.same("the highest on 8 burrows", Check.field(8, SQUARE).begin(1243), 0);
        told.refused("one higher", 7, 1244, field -> field.begin(1244));
        told.refused("two on one, higher still", 7, 1260, field -> field.begin(1260));
        told.given(() -> Check.field(1, ""));
        told.refused("none on one burrow", 7, 0, field -> field.begin(0));
    }

    private void beginOfTwoGeese() {
        told.of(7, "Two geese are told with the lower one first.");
        told.given(() -> flocked(8, SQUARE));
        told.refused("one goose of two", 7, 18, field -> field.begin(18));
        told.refused("both on one", 7, 23, field -> field.begin(23));
        told.same("the lowest", flocked(8, SQUARE).begin(24), 1);
        told.same("the highest", flocked(8, SQUARE).begin(1239), 0);
        told.refused("the fox on the second one's", 7, 1240, field -> field.begin(1240));
        told.refused("the higher one first", 7, 1134 + 108 + 12, field -> field.begin(1134 + 108 + 12));
    }

    private void beginInPlace() {
        told.of(7, "Begins a game with a position, in place of another one.");
        FoxBurrows field = begun(4, SQUARE, 486);
        field.play(3);
        told.same("in place of one with 3 moves", field.begin(487), 1);
        told.same("no move of it", field.account(7), 0);
        told.same("another position", field.now(), 487);
        told.same("another line", Check.line(field), "");
        told.same("with the same once more", field.begin(487) + " " + field.account(8), "1 3");
    }

    private void beginOver() {
        told.of(7, "A game can begin with a position in which it is over.");
        told.same("no moves", Check.field(3, LINE).begin(18), 0);
        told.same("in which it is not: one move", Check.field(3, LINE).begin(19), 1);
        told.given(game(3, LINE, 18));
        told.refused("no move", 9, 0, field -> field.move(0, 1));
        told.refused("no play", 9, 0, field -> field.play(1));
        told.refused("nothing to take back", 11, 0, FoxBurrows::back);
        told.same("a game all the same", begun(3, LINE, 18).account(7), 0);
    }

    private void movesOfBegun() {
        told.of(7, "Returns how many moves it has.");
        told.same("none", Check.field(4, SQUARE).begin(523), 0);
        told.same("one", Check.field(4, SQUARE).begin(522), 1);
        told.same("two", Check.field(4, SQUARE).begin(504), 2);
        told.same("the fox to 6 burrows", Check.field(8, "70 71 72 73 74 75 76").begin(1134), 6);
        told.same("two geese to 5 burrows each", flocked(8, "02 03 04 05 06 07 12 13 14 15 16 17").begin(1139), 10);
    }

    private void noGame() {
        told.of(8, "8, there is no game;");
        told.given(() -> Check.field(4, SQUARE));
        told.refused("move", 8, 0, field -> field.move(3, 2));
        told.refused("move of no burrows", 8, 0, field -> field.move(-1, 9));
        told.refused("the least play", 8, 0, field -> field.play(1));
        told.refused("the most play", 8, 0, field -> field.play(40));
        told.refused("back", 8, 0, FoxBurrows::back);
        told.given(() -> {
            FoxBurrows field = begun(4, SQUARE, 486);
            field.undo();
            return field;
        });
        told.refused("move after undo", 8, 0, field -> field.move(3, 2));
        told.same("with a game", begun(4, SQUARE, 486).move(3, 2), 2);
    }

    private void gameOver() {
        told.of(8, "9, the game is over: how many moves it had;");
        FoxBurrows field = begun(4, SQUARE, 486);
        field.play(6);
        told.same("one move before", field.now() + " " + field.positionOf(field.now(), 4), "54 1");
        told.same("the last move", field.move(0, 1), 0);
        told.given(() -> played(7));
        told.refused("a move behind it", 9, 7, x -> x.move(3, 2));
        told.refused("a move of no burrows", 9, 7, x -> x.move(-1, 8));
        told.refused("play behind it", 9, 7, x -> x.play(1));
        told.same("taken back, it goes on", played(7).back(), 6);
        FoxBurrows again = played(7);
        again.back();
        told.same("the last move again", again.move(0, 1) + " " + again.account(7), "0 7");
        told.given(game(3, LINE, 343));
        told.refused("with no move made", 9, 0, x -> x.move(2, 1));
    }

    private static FoxBurrows played(int moves) {
        FoxBurrows field = begun(4, SQUARE, 486);
        field.play(moves);
        return field;
    }

    private void noSuchMove() {
        told.of(8, "10, there is no such move: how many moves there are;");
        told.given(game(4, SQUARE, 504));
        told.refused("not over a path", 10, 2, field -> field.move(3, 1));
        told.refused("not where it stands", 10, 2, field -> field.move(3, 3));
        told.refused("not from the goose's burrow", 10, 2, field -> field.move(1, 2));
        told.refused("not from an empty one", 10, 2, field -> field.move(0, 1));
        told.refused("from below 0", 10, 2, field -> field.move(-1, 0));
        told.refused("to below 0", 10, 2, field -> field.move(3, -1));
        told.refused("from behind the last", 10, 2, field -> field.move(4, 0));
        told.refused("to behind the last", 10, 2, field -> field.move(3, 4));
        told.refused("from 2 to 8, in one number like 3 to 0", 10, 2, field -> field.move(2, 8));
        told.refused("from 4 to -8, in one number like 3 to 0", 10, 2, field -> field.move(4, -8));
        told.refused("from 11 to 0, in bits like 3 to 0", 10, 2, field -> field.move(11, 0));
        told.refused("the greatest", 10, 2, field -> field.move(Integer.MAX_VALUE, Integer.MAX_VALUE));
        told.refused("the least", 10, 2, field -> field.move(Integer.MIN_VALUE, Integer.MIN_VALUE));
        told.same("to 0", begun(4, SQUARE, 504).move(3, 0), 1);
        told.same("to 2", begun(4, SQUARE, 504).move(3, 2), 0);
        told.given(game(4, SQUARE, 486));
        told.refused("of one move", 10, 1, field -> field.move(3, 0));
        told.given(game(8, "70 71 72 73 74 75 76", 1134));
        told.refused("of six moves", 10, 6, field -> field.move(7, 0));
        told.givenBare(() -> longGame(24));
        told.refused("of three moves when 24 are made", 10, 3, field -> field.move(0, 6));
    }

    private void overPath() {
        told.of(8, "A piece moves over a path to a burrow that is empty and no trap. The fox can move over any path;");
        told.same("the fox down", begun(3, LINE, 198).move(1, 0), 0);
        told.same("the fox up", begun(3, LINE, 162).move(1, 2), 1);
        told.given(game(3, LINE, 342));
        told.refused("not to a goose", 9, 0, field -> field.move(2, 1));
        told.given(() -> {
            FoxBurrows field = flocked(4, SQUARE);
            field.begin(Check.number(0, 1, 3, false));
            return field;
        });
        told.refused("not between two geese", 9, 0, field -> field.move(0, 1));
        told.given(() -> {
            FoxBurrows field = flocked(4, SQUARE);
            field.begin(Check.number(3, 0, 1, true));
            return field;
        });
        told.refused("a goose not to another one", 10, 1, field -> field.move(0, 1));
        told.refused("a goose not to the fox", 10, 1, field -> field.move(0, 3));
    }

    private void onlyUpward() {
        told.of(8, "a goose only to a burrow with a greater number than its own.");
        told.given(game(5, "21 23 20 24", Check.number(0, 2, -1, true)));
        told.refused("to one less", 10, 2, field -> field.move(2, 1));
        told.refused("to its own", 10, 2, field -> field.move(2, 2));
        told.same("to one more", begun(5, "21 23 20 24", Check.number(0, 2, -1, true)).move(2, 3), 1);
        told.same("to two more", begun(5, "21 23 20 24", Check.number(0, 2, -1, true)).move(2, 4), 1);
        told.same("none from the last", Check.field(5, "43 42 41 40").begin(Check.number(0, 4, -1, true)), 0);
    }

    private void ontoTrap() {
        told.of(8, "A piece can stand on a trap if a position tells it so, and move away.");
        told.given(() -> trapped(0, 198));
        told.refused("the fox not onto a trap", 9, 0, field -> field.move(1, 0));
        told.same("the fox where none is", begun(3, LINE, 198).move(1, 0), 0);
        told.same("the fox away from a trap", trapped(0, 36).move(0, 1), 0);
        told.given(() -> trapped(1, 325));
        told.refused("a goose not onto a trap", 9, 0, field -> field.move(0, 1));
        told.same("a goose where none is", begun(3, LINE, 325).move(0, 1), 0);
        told.same("a goose away from a trap", trapped(0, 325).move(0, 1), 0);
    }

    /** A game on 0-1-2 with a trap. */
    private static FoxBurrows trapped(int trap, int position) {
        FoxBurrows field = Check.field(3, LINE);
        field.trap(trap, true);
        field.begin(position);
        return field;
    }

    private void moveReturns() {
        told.of(8, "Returns how many moves the other one has then.");
        told.same("none", begun(4, SQUARE, 504).move(3, 2), 0);
        told.same("one", begun(4, SQUARE, 504).move(3, 0), 1);
        told.same("two", begun(4, SQUARE, 486).move(3, 2), 2);
        FoxBurrows many = flocked(8, "02 03 04 05 06 07 12 13 14 15 16 17 67");
        many.begin(976);
        told.same("two geese to 5 burrows each", many.move(6, 7), 10);
    }

    private void moveOrder() {
        told.of(8, REFUSED + "8, 9, 10, or 2, with 40; the reason is kept");
        told.of(8, "Something is refused for the first that applies of the reasons that its method names, in the order "
            + "in which it names them: 1, a number is out of range;");
        told.given(() -> Check.field(2, "01"));
        told.refused("8 before 10", 8, 0, field -> field.move(0, 0));
        told.given(game(2, "01", 18));
        told.refused("9 before 10", 9, 0, field -> field.move(0, 0));
        told.given(game(3, LINE, 36));
        told.refused("10", 10, 1, field -> field.move(0, 0));
    }

    /** As geese only go forward, 25 moves are the most that a game can have: no run of calls comes near the 40th. */
    private void fortyMoves() {
        told.of(9, "At most 40 moves are kept.");
        told.of(9, "it ends when 40 are kept;");
        told.same("one move before the end of the longest game", longGame(24).account(7), 24);
        FoxBurrows field = longGame(25);
        told.same("the longest game", field.account(7), 25);
        told.same("its moves", Check.line(field), LONG_LINE);
        told.same("from its end", field.now(), Check.number(1, 6, 7, true));
        for (int moves = 24; moves >= 0; moves--) {
            told.same("all of them taken back", field.back(), moves);
        }
        told.same("to its first position", field.now(), LONG_START);
        told.givenBare(() -> longGame(25));
        told.refused("a move behind the longest game", 9, 25, x -> x.move(1, 0));
        told.refused("play behind the longest game", 9, 25, x -> x.play(40));
    }

    private void playRange() {
        told.of(9, "`moves`: how many moves at most, 1 to 40");
        told.given(() -> played(1));
        told.refused("-1", 1, 0, field -> field.play(-1));
        told.refused("0", 1, 0, field -> field.play(0));
        told.same("1", played(1).play(1), 1);
        told.same("2", played(1).play(2), 2);
        told.same("39", played(1).play(39), 6);
        told.same("40", played(1).play(40), 6);
        told.refused("41", 1, 0, field -> field.play(41));
        told.refused("the greatest", 1, 0, field -> field.play(Integer.MAX_VALUE));
        told.refused("the least", 1, 0, field -> field.play(Integer.MIN_VALUE));
    }

    private void playUntil() {
        told.of(9, "Returns how many are made.");
        told.of(9, "To let it play means that best moves are made, until the game is over, or so many moves are made.");
        told.same("one less than it takes", begun(4, SQUARE, 486).play(6), 6);
        told.same("not over then", played(6).move(0, 1), 0);
        told.same("as many as it takes", begun(4, SQUARE, 486).play(7), 7);
        told.same("over then", played(7).positionOf(played(7).now(), 4), 0);
        told.same("one more than it takes", begun(4, SQUARE, 486).play(8), 7);
        FoxBurrows field = longGame(0);
        told.same("one less of 23", field.play(22), 22);
        told.same("the last of 23", field.play(2), 1);
        told.same("all of 23", longGame(0).play(40), 23);
    }

    private void playRefused() {
        told.of(9, REFUSED
            + "1, 8, 9, or 2, with 40, if no move more can be kept; it ends when 40 are kept; the reason is kept");
        told.given(() -> Check.field(4, SQUARE));
        told.refused("1 before 8, too few", 1, 0, field -> field.play(0));
        told.refused("1 before 8, too many", 1, 0, field -> field.play(41));
        told.refused("8 with one move", 8, 0, field -> field.play(1));
        told.refused("8 with 40 moves", 8, 0, field -> field.play(40));
        told.given(() -> played(7));
        told.refused("1 before 9, too few", 1, 0, field -> field.play(0));
        told.refused("1 before 9, too many", 1, 0, field -> field.play(41));
        told.refused("9 with one move", 9, 7, field -> field.play(1));
        told.refused("9 with 40 moves", 9, 7, field -> field.play(40));
        told.given(game(4, SQUARE, 217));
        told.refused("9 at once", 9, 0, field -> field.play(1));
    }

    private void playBest() {
        told.of(9, "A game is begun with a position, and goes on by moves.");
        FoxBurrows field = begun(4, SQUARE, 486);
        field.play(7);
        told.same("best moves", Check.line(field), "3f2 0g1 2f3 1g2 3f0 2g3 0f1");
        told.same("where they lead", field.now(), 217);
        FoxBurrows own = begun(4, SQUARE, 504);
        own.move(3, 0);
        own.play(2);
        told.same("behind a move that is not the best", Check.line(own), "3f0 1g2 0f3");
    }

    private void backRefused() {
        told.of(10, REFUSED + "8 or 11; the reason is kept");
        told.of(10, "11, no move was made.");
        told.given(() -> Check.field(4, SQUARE));
        told.refused("without a game", 8, 0, FoxBurrows::back);
        told.given(() -> played(1));
        told.same("with one move", played(1).back(), 0);
        told.given(game(4, SQUARE, 486));
        told.refused("without a move", 11, 0, FoxBurrows::back);
        told.given(() -> {
            FoxBurrows field = played(1);
            field.back();
            return field;
        });
        told.refused("with the only one taken back", 11, 0, FoxBurrows::back);
        told.given(game(4, SQUARE, 217));
        told.refused("when it began over", 11, 0, FoxBurrows::back);
    }

    private void backReturns() {
        told.of(10, "Takes the latest move of the game back. Returns how many moves are left in the game.");
        told.same("of 1", played(1).back(), 0);
        told.same("of 2", played(2).back(), 1);
        told.same("of 7, over", played(7).back(), 6);
        FoxBurrows field = played(2);
        field.back();
        told.same("the position before it", field.now(), played(1).now());
        told.same("the moves before it", Check.line(field), "3f2");
        field.back();
        told.same("the first position", field.now(), 486);
        told.same("the longest of all", longGame(25).back(), 24);
    }

    private void now() {
        told.of(25, "Throws `NoSuchElementException` if there is no game");
        told.given(() -> Check.field(4, SQUARE));
        told.fails("no game", NoSuchElementException.class, FoxBurrows::now);
        told.same("no move", begun(4, SQUARE, 486).now(), 486);
        told.same("one move", played(1).now(), 325);
        told.same("the last move", played(7).now(), 217);
        told.given(() -> {
            FoxBurrows field = begun(4, SQUARE, 486);
            field.undo();
            return field;
        });
        told.fails("no more", NoSuchElementException.class, FoxBurrows::now);
        told.given(FoxBurrows::new);
        told.fails("no burrow", NoSuchElementException.class, FoxBurrows::now);
    }

    private void lineOf() {
        told.of(30, "Writes the moves of the game, in place of the line before: for each the burrow from which, \"f\" "
            + "if the fox moved or \"g\" if a goose did, and the burrow to which, with a blank between two; as in "
            + "\"3f4 0g1\"; nothing without a game.");
        told.same("without a game", Check.field(4, SQUARE).line(), 0);
        told.same("no move", begun(4, SQUARE, 486).line(), 0);
        told.same("one move", Check.line(played(1)), "3f2");
        told.same("two moves", Check.line(played(2)), "3f2 0g1");
        told.same("three moves", Check.line(played(3)), "3f2 0g1 2f3");
        told.same("a goose first", Check.line(goose()), "0g1");
        told.same("the most moves", longGame(25).line(), 99);
    }

    private static FoxBurrows goose() {
        FoxBurrows field = begun(4, SQUARE, 487);
        field.play(1);
        return field;
    }

    private void lineInPlace() {
        told.of(30, "Returns the length of the line.");
        FoxBurrows field = played(2);
        told.same("two moves", field.line(), 7);
        field.back();
        told.same("as it was until it is written", Sentences.written(field), "3f2 0g1");
        told.same("one move", field.line(), 3);
        told.same("a shorter one", Sentences.written(field), "3f2");
        field.back();
        told.same("no move", field.line(), 0);
        told.same("an empty one", Sentences.written(field), "");
        field.play(1);
        field.line();
        field.dig();
        told.same("as it was without a game", Sentences.written(field), "3f2");
        told.same("nothing without a game", field.line(), 0);
        told.same("an empty one again", Sentences.written(field), "");
    }

    private void characterOf() {
        told.of(31, "`index`: the index, from 0");
        told.of(31, "Throws `IndexOutOfBoundsException` if there is no such index");
        told.given(() -> played(2));
        FoxBurrows field = played(2);
        field.line();
        told.fails("-1", IndexOutOfBoundsException.class, x -> x.character(-1));
        told.same("0", field.character(0), '3');
        told.same("1", field.character(1), 'f');
        told.same("the blank", field.character(3), ' ');
        told.same("the last", field.character(6), '1');
        told.fails("behind the last", IndexOutOfBoundsException.class, x -> x.character(7));
        told.fails("the greatest", IndexOutOfBoundsException.class, x -> x.character(Integer.MAX_VALUE));
        told.fails("the least", IndexOutOfBoundsException.class, x -> x.character(Integer.MIN_VALUE));
        FoxBurrows longest = longGame(25);
        longest.line();
        told.same("the last of 99", longest.character(98), '1');
        told.same("behind 99", Check.thrownBy(() -> longest.character(99)), "java.lang.IndexOutOfBoundsException");
    }

    private void emptyAtFirst() {
        told.of(31, "Returns a character of the line, which is empty at first.");
        told.givenBare(() -> played(2));
        told.fails("no line: 0", IndexOutOfBoundsException.class, field -> field.character(0));
        told.fails("no line: -1", IndexOutOfBoundsException.class, field -> field.character(-1));
        told.givenBare(() -> {
            FoxBurrows field = played(2);
            field.line();
            field.begin(486);
            field.line();
            return field;
        });
        told.fails("an empty line: 0", IndexOutOfBoundsException.class, field -> field.character(0));
    }
}
