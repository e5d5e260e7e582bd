import java.util.NoSuchElementException;
import java.util.function.Supplier;

/** Promises 11 to 22, 32 and 33: what names a boundary of positions, their outcomes and their moves. */
final class PositionSentences {
    private static final Class<NoSuchElementException> NONE = NoSuchElementException.class;
    private static final Class<IllegalArgumentException> WRONG = IllegalArgumentException.class;
    private static final String FIRST_LISTED =
        "If several conditions of a method are fulfilled, the one that is listed first determines the exception.";
    private static final String NO_POSITION = "Throws `NoSuchElementException` if there is no such position";
    private static final String LINE = "01 12";
    private static final String SQUARE = "01 12 23 30";
    /** From 0 upward over 1 only, or over 2 or 3 to 4. */
    private static final String BOW = "01 02 03 24 34";
    private static final String PATHS_14 = "01 02 03 04 05 06 07 12 13 14 15 16 17 23";
    private static final String PATHS_16 = PATHS_14 + " 24 25";

    /** All positions of the line 0-1-2: the number, the outcome, in how many moves. */
    private static final int[][] OF_LINE = {{18, 2, 0}, {19, 2, 2}, {36, 1, 1}, {37, 2, 0}, {162, 2, 2}, {163, 2, 0},
        {198, 1, 1}, {199, 2, 0}, {324, 1, 1}, {325, 1, 1}, {342, 2, 0}, {343, 2, 0}};

    /** All positions of the line when 0-2 is trodden too. */
    private static final int[][] OF_TRIANGLE = {{18, 1, 1}, {19, 2, 2}, {36, 1, 1}, {37, 2, 0}, {162, 1, 5}, {163, 2, 2},
        {198, 1, 1}, {199, 2, 0}, {324, 1, 3}, {325, 2, 4}, {342, 1, 3}, {343, 2, 0}};

    /** All positions of the square with a trap on 0. */
    private static final int[][] OF_TRAP = {{18, 2, 2}, {19, 2, 2}, {36, 1, 1}, {37, 2, 2}, {54, 1, 1}, {55, 2, 0}, {162, 2, 4},
        {163, 2, 2}, {198, 2, 0}, {199, 2, 2}, {216, 1, 1}, {217, 2, 0}, {324, 1, 3}, {325, 1, 3}, {342, 2, 2}, {343, 2, 0},
        {378, 1, 1}, {379, 2, 0}, {486, 2, 4}, {487, 2, 2}, {504, 1, 1}, {505, 1, 1}, {522, 2, 0}, {523, 2, 0}};

    /** All positions of two geese on the square with a trap on 3. */
    private static final int[][] OF_TRAP_FOR_TWO = {{24, 2, 0}, {25, 2, 0}, {26, 2, 0}, {27, 2, 2}, {44, 1, 1}, {45, 2, 0},
        {168, 2, 0}, {169, 2, 0}, {170, 2, 2}, {171, 2, 0}, {206, 1, 1}, {207, 2, 0}, {328, 2, 0}, {329, 2, 0}, {332, 1, 1},
        {333, 1, 1}, {350, 2, 0}, {351, 2, 0}, {490, 1, 1}, {491, 1, 1}, {492, 2, 0}, {493, 2, 2}, {510, 1, 1}, {511, 2, 0}};

    private final Sentences told;

    PositionSentences(Sentences told) {
        this.told = told;
    }

    void all() {
        numbers();
        secondOfOne();
        positionWithoutBurrow();
        positionOnOne();
        positionOfTwo();
        morePieces();
        whatOfPosition();
        positionOfWhat();
        positionOfMissing();
        positionOfBoth();
        notDrawn();
        movesOfOutcomes();
        outcomesWithTraps();
        again();
        againMissing();
        order();
        place();
        noPlace();
        bestCode();
        bestOfSeveral();
        bestMissing();
        behind();
        inOrderAnew();
        afterMissing();
        ends();
        endsMissing();
        counts();
        countMissing();
        longest();
        noneLongest();
        wonIn();
        wonInMissing();
        wouldChange();
        sixteenPaths();
        wouldChangeMissing();
        wouldChangeBoth();
        bestBurrow();
        bestBurrowOnTrap();
        noBestBurrow();
        mean();
        noMean();
        drawn();
        noShare();
    }

    private static FoxBurrows line() {
        return Check.field(3, LINE);
    }

    private static FoxBurrows square() {
        return Check.field(4, SQUARE);
    }

    private static FoxBurrows flocked(int burrows, String paths) {
        FoxBurrows field = Check.field(burrows, paths);
        field.flock(2);
        return field;
    }

    private static Supplier<FoxBurrows> squareOfTwo() {
        return () -> flocked(4, SQUARE);
    }

    private void numbers() {
        told.of(11, "The number of a position is 162 times the burrow of the fox, 18 times that of the first goose, "
            + "twice 1 more than that of the second one, and 1 if it is the turn of the geese, together.");
        told.same("the lowest", Check.field(8, "").position(0, 1, -1, false), 18);
        told.same("the turn of the goose", Check.field(8, "").position(0, 1, -1, true), 19);
        told.same("the goose one higher", Check.field(8, "").position(0, 2, -1, false), 36);
        told.same("the fox one higher", Check.field(8, "").position(1, 2, -1, false), 198);
        told.same("the highest", Check.field(8, "").position(7, 6, -1, true), 1243);
        told.same("the lowest of two geese", flocked(8, "").position(0, 1, 2, false), 24);
        told.same("the second one higher", flocked(8, "").position(0, 1, 3, false), 26);
        told.same("the highest of two geese", flocked(8, "").position(7, 5, 6, true), 1239);
    }

    private void secondOfOne() {
        told.of(11, "`second`: that of the second one, -1 with one goose");
        told.of(11, "With one goose, the second one is told to be on -1.");
        told.given(PositionSentences::square);
        told.fails("-2", NONE, field -> field.position(0, 1, -2, false));
        told.same("-1", square().position(0, 1, -1, false), 18);
        told.fails("0", NONE, field -> field.position(1, 0, 0, false));
        told.fails("2", NONE, field -> field.position(0, 1, 2, false));
        told.same("-1 as a number of it", square().positionOf(18, 2), -1);
    }

    private void positionWithoutBurrow() {
        told.of(11, "Throws `NoSuchElementException` if there is no such position: a burrow that there is not, two "
            + "pieces on one, geese in another order, or another number of geese");
        told.given(PositionSentences::square);
        told.fails("the fox below 0", NONE, field -> field.position(-1, 1, -1, true));
        told.same("the fox on 0", square().position(0, 1, -1, true), 19);
        told.same("the fox on the last", square().position(3, 1, -1, true), 505);
        told.fails("the fox behind the last", NONE, field -> field.position(4, 1, -1, true));
        told.fails("the goose below 0", NONE, field -> field.position(1, -1, -1, true));
        told.same("the goose on 0", square().position(1, 0, -1, true), 163);
        told.same("the goose on the last", square().position(1, 3, -1, true), 217);
        told.fails("the goose behind the last", NONE, field -> field.position(1, 4, -1, true));
        told.fails("the fox on the greatest", NONE, field -> field.position(Integer.MAX_VALUE, 0, -1, false));
        told.fails("the goose on the least", NONE, field -> field.position(0, Integer.MIN_VALUE, -1, false));
        told.given(squareOfTwo());
        told.fails("the second behind the last", NONE, field -> field.position(0, 1, 4, true));
        told.same("the second on the last", squareOfTwo().get().position(0, 1, 3, true), 27);
        told.fails("the first below 0", NONE, field -> field.position(0, -1, 1, true));
        told.fails("the fox behind the last, two geese", NONE, field -> field.position(4, 0, 1, true));
        told.fails("the second on the greatest", NONE, field -> field.position(0, 1, Integer.MAX_VALUE, true));
        told.given(FoxBurrows::new);
        told.fails("no burrow at all", NONE, field -> field.position(0, 0, -1, false));
    }

    private void positionOnOne() {
        told.of(11, "Each stands on a burrow of its own.");
        told.given(PositionSentences::square);
        told.same("the fox beside the goose", square().position(1, 2, -1, false), 198);
        told.fails("the fox on the goose's", NONE, field -> field.position(2, 2, -1, false));
        told.same("the fox beside the goose, above", square().position(3, 2, -1, false), 522);
        told.given(squareOfTwo());
        told.fails("the fox on the first one's", NONE, field -> field.position(1, 1, 2, true));
        told.fails("the fox on the second one's", NONE, field -> field.position(2, 1, 2, true));
        told.fails("both geese on one", NONE, field -> field.position(3, 1, 1, true));
        told.same("the fox beside both", squareOfTwo().get().position(3, 1, 2, true), 511);
    }

    private void positionOfTwo() {
        told.of(11, "Two geese are told with the lower one first.");
        told.given(squareOfTwo());
        told.fails("one goose of two", NONE, field -> field.position(3, 1, -1, true));
        told.fails("the second lower", NONE, field -> field.position(3, 1, 0, true));
        told.fails("the second on the same", NONE, field -> field.position(3, 1, 1, true));
        told.same("the second higher", squareOfTwo().get().position(3, 1, 2, true), 511);
        told.same("the first lower", squareOfTwo().get().position(3, 0, 2, true), 493);
    }

    private void morePieces() {
        told.of(11, "There are no positions with more pieces than burrows.");
        told.given(() -> Check.field(1, ""));
        told.fails("one goose on 1 burrow", NONE, field -> field.position(0, 0, -1, false));
        told.fails("one goose on 1 burrow, on another", NONE, field -> field.position(0, 1, -1, false));
        told.same("one goose on 2 burrows", Check.field(2, "").position(1, 0, -1, false), 162);
        told.given(() -> flocked(2, "01"));
        told.fails("two geese on 2 burrows", NONE, field -> field.position(0, 1, 2, false));
        told.fails("two geese on 2 burrows, told as one", NONE, field -> field.position(0, 1, -1, false));
        told.same("two geese on 3 burrows", flocked(3, "").position(2, 0, 1, false), 328);
    }

    private void whatOfPosition() {
        told.of(12, "`what`: 0 for the burrow of the fox, 1 and 2 for those of the geese, -1 for the second one with "
            + "one goose, 3 for 1 if it is the turn of the geese, otherwise 0, 4 for its moves, 5 for 1 if it is won "
            + "for whoever has the turn, 2 if it is lost, 0 if it is drawn, 6 for in how many moves, -1 if it is "
            + "drawn");
        told.same("of the lowest", numbersOf(line(), 18), "0 1 -1 0 0 2 0");
        told.same("of the highest", numbersOf(line(), 343), "2 1 -1 1 0 2 0");
        told.same("one move", numbersOf(line(), 325), "2 0 -1 1 1 1 1");
        told.same("two moves", numbersOf(square(), 324), "2 0 -1 0 2 1 3");
        told.same("won in the most", numbersOf(square(), 486), "3 0 -1 0 1 1 7");
        told.same("lost in 6", numbersOf(square(), 325), "2 0 -1 1 2 2 6");
        told.same("of two geese", numbersOf(flocked(8, ""), 1239), "7 5 6 1 0 2 0");
        told.same("of two geese, the lowest", numbersOf(flocked(8, ""), 24), "0 1 2 0 0 2 0");
        told.same("the most moves", flocked(8, "02 03 04 05 06 07 12 13 14 15 16 17").positionOf(1139, 4), 10);
    }

    private static String numbersOf(FoxBurrows field, int position) {
        StringBuilder text = new StringBuilder();
        for (int what = 0; what <= 6; what++) {
            text.append(field.positionOf(position, what)).append(' ');
        }
        return text.toString().strip();
    }

    private void positionOfWhat() {
        told.of(12, "Throws `IllegalArgumentException` if what is not from 0 to 6");
        told.given(PositionSentences::line);
        told.fails("-1", WRONG, field -> field.positionOf(325, -1));
        told.same("0", line().positionOf(325, 0), 2);
        told.same("6", line().positionOf(325, 6), 1);
        told.fails("7", WRONG, field -> field.positionOf(325, 7));
        told.fails("the greatest", WRONG, field -> field.positionOf(325, Integer.MAX_VALUE));
        told.fails("the least", WRONG, field -> field.positionOf(325, Integer.MIN_VALUE));
    }

    private void positionOfMissing() {
        told.of(12, NO_POSITION);
        missing((field, position) -> field.positionOf(position, 0));
        missing((field, position) -> field.positionOf(position, 6));
    }

    /** A call that tells something about a position. */
    private interface Ask {
        Object of(FoxBurrows field, int position);
    }

    /** Numbers below, between and above those of positions. */
    private void missing(Ask ask) {
        told.given(PositionSentences::line);
        int[] none = {-1, 0, 17, 20, 344, 486, 1295, 1296, Integer.MAX_VALUE, Integer.MIN_VALUE};
        for (int position : none) {
            told.fails("no " + position, NONE, field -> ask.of(field, position));
        }
        told.given(() -> flocked(8, SQUARE));
        int[] noneOfTwo = {18, 23, 1240, 1254};
        for (int position : noneOfTwo) {
            told.fails("no " + position + " of two geese", NONE, field -> ask.of(field, position));
        }
        told.given(() -> Check.field(1, ""));
        told.fails("none on one burrow", NONE, field -> ask.of(field, 0));
        told.given(() -> Check.field(8, SQUARE));
        told.fails("behind the highest", NONE, field -> ask.of(field, 1244));
        told.fails("two on one", NONE, field -> ask.of(field, 1260));
        told.given(() -> {
            FoxBurrows field = flocked(4, SQUARE);
            field.meanMoves();
            field.outcomeAgain(24);
            field.flock(1);
            return field;
        });
        told.fails("one of two geese, when there were two", NONE, field -> ask.of(field, 24));
    }

    private void positionOfBoth() {
        told.of(12, FIRST_LISTED);
        told.given(PositionSentences::line);
        told.fails("no what, no position, above", WRONG, field -> field.positionOf(1296, 7));
        told.fails("no what, no position, below", WRONG, field -> field.positionOf(-1, -1));
        told.fails("no position alone", NONE, field -> field.positionOf(-1, 6));
    }

    /** A goose goes upward only, so each line of play comes to an end, and each position can be shown won or lost. */
    private void notDrawn() {
        told.of(12, "and drawn if neither can be shown so in some number of moves.");
        told.of(12, "of one that is drawn, to a drawn one;");
        FoxBurrows field = square();
        told.same("none for the fox", field.count(0, false), 0);
        told.same("none for the goose", field.count(0, true), 0);
        told.same("all are won or lost", field.count(1, false) + field.count(2, true), 24);
        FoxBurrows many = flocked(8, PATHS_16);
        told.same("none of two geese", many.count(0, false) + many.count(0, true), 0);
    }

    private void movesOfOutcomes() {
        told.of(12, "Whoever has the turn and no move has lost. Otherwise a position is won for whoever has the turn "
            + "if some move leads to a position that is lost for the other one; lost if each move leads to one that is "
            + "won for the other one;");
        told.of(12, "A position is won in 1 more than the least number of moves of lost ones to which a move leads; "
            + "lost in 0 if there is no move, and otherwise in 1 more than the greatest number of the won ones to "
            + "which moves lead.");
        outcomes("of a line", line(), OF_LINE);
        outcomes("of a triangle", Check.field(3, "01 12 02"), OF_TRIANGLE);
        outcome("to a lost one in 2 and one in 0", square(), 36, 1, 1);
        outcome("to won ones in 5 and in 1", square(), 325, 2, 6);
        outcome("to won ones in 1, 3 and 3", Check.field(5, BOW), 649, 2, 4);
        outcome("to a won one in 3 and a lost one in 0", flocked(4, "01 02 03 12 23"), 491, 1, 1);
        outcome("to a won one in 1 and a lost one in 2", squareOfTwo().get(), 169, 1, 3);
    }

    private void outcomesWithTraps() {
        told.of(12, "A piece can stand on a trap if a position tells it so, and move away.");
        FoxBurrows trapped = square();
        trapped.trap(0, true);
        outcomes("with a trap", trapped, OF_TRAP);
        FoxBurrows two = flocked(4, SQUARE);
        two.trap(3, true);
        outcomes("with a trap for two geese", two, OF_TRAP_FOR_TWO);
        two.trap(3, false);
        outcome("with none for two geese", two, 25, 1, 1);
    }

    private void outcomes(String what, FoxBurrows field, int[][] all) {
        for (int[] due : all) {
            outcome(what + ": " + due[0], field, due[0], due[1], due[2]);
            told.same(what + ": " + due[0] + " again", field.outcomeAgain(due[0]), due[1]);
        }
        told.same(what + ": all positions", field.account(4), all.length);
    }

    private void outcome(String what, FoxBurrows field, int position, int outcome, int moves) {
        told.same(what, field.positionOf(position, 5) + " in " + field.positionOf(position, 6), outcome + " in " + moves);
    }

    private void again() {
        told.of(13, "Returns what a position is, as by what 5, by a second way: by looking at all positions again and "
            + "again.");
        told.of(13, "Returns 1 if it is won, 2 if it is lost, 0 if it is drawn.");
        FoxBurrows line = line();
        for (int[] due : OF_LINE) {
            told.same("outcome of " + due[0], line.outcomeAgain(due[0]), due[1]);
        }
        told.same("won in the most", square().outcomeAgain(486), 1);
        told.same("lost in 6", square().outcomeAgain(325), 2);
        FoxBurrows changed = line();
        changed.outcomeAgain(324);
        changed.trap(1, true);
        told.same("lost when its move leads to a trap", changed.outcomeAgain(324), 2);
        changed.undo();
        told.same("won when that is undone", changed.outcomeAgain(324), 1);
        changed.tread(0, 2);
        for (int[] due : OF_TRIANGLE) {
            told.same("outcome of " + due[0] + " with another path", changed.outcomeAgain(due[0]), due[1]);
        }
    }

    private void againMissing() {
        told.of(13, NO_POSITION);
        missing(FoxBurrows::outcomeAgain);
    }

    private static String moves(FoxBurrows field, int position) {
        StringBuilder text = new StringBuilder();
        for (int place = 0; place < field.positionOf(position, 4); place++) {
            text.append(field.moveOf(position, place, false)).append(field.moveOf(position, place, true)).append(' ');
        }
        return text.toString().strip();
    }

    private void order() {
        told.of(14, "The moves of a position are in this order: by the burrows from which, then those to which they "
            + "lead, the lowest first.");
        told.of(14, "`isTo`: true for the burrow to which it leads, false for that from which");
        told.same("one", moves(line(), 325), "01");
        told.same("two of one goose", moves(square(), 325), "01 03");
        told.same("two of the fox, trodden the other way", moves(Check.field(4, "32 30"), 504), "30 32");
        FoxBurrows two = flocked(5, "14 12 04 02 01");
        told.same("of two geese, trodden the other way", moves(two, Check.number(3, 0, 1, true)), "02 04 12 14");
        told.same("none", moves(line(), 343), "");
    }

    private void place() {
        told.of(14, "`place`: the place of the move in their order, from 0");
        told.given(PositionSentences::square);
        told.fails("-1", NONE, field -> field.moveOf(504, -1, true));
        told.same("0", square().moveOf(504, 0, true), 0);
        told.same("1", square().moveOf(504, 1, true), 2);
        told.fails("2", NONE, field -> field.moveOf(504, 2, true));
        told.fails("the greatest", NONE, field -> field.moveOf(504, Integer.MAX_VALUE, true));
        told.fails("the least", NONE, field -> field.moveOf(504, Integer.MIN_VALUE, true));
    }

    private void noPlace() {
        told.of(14, "Throws `NoSuchElementException` if there is no such position, or no such place");
        missing((field, position) -> field.moveOf(position, 0, false));
        told.given(PositionSentences::line);
        told.fails("none without a move", NONE, field -> field.moveOf(343, 0, false));
        told.same("the only one", line().moveOf(325, 0, false), 0);
        told.fails("behind the only one", NONE, field -> field.moveOf(325, 1, false));
        FoxBurrows many = flocked(8, "02 03 04 05 06 07 12 13 14 15 16 17");
        told.same("the last of 10", many.moveOf(1139, 9, false) + " " + many.moveOf(1139, 9, true), "1 6");
        told.given(() -> flocked(8, "02 03 04 05 06 07 12 13 14 15 16 17"));
        told.fails("behind the last of 10", NONE, field -> field.moveOf(1139, 10, false));
    }

    private void bestCode() {
        told.of(15, "Returns 8 times the burrow from which, and that to which it leads.");
        told.same("from 0 to 1", line().best(325), 1);
        told.same("from 1 to 0", line().best(198), 8);
        told.same("from 7 to 6", Check.field(8, "67").best(Check.number(7, 0, -1, false)), 62);
        told.same("from 6 to 7", Check.field(8, "67").best(Check.number(6, 0, -1, false)), 55);
    }

    private void bestOfSeveral() {
        told.of(15, "The best move of a position that is won leads to a lost one with the least number; of one that is "
            + "lost, to a won one with the greatest number;");
        told.of(15, "of several it is the first one.");
        told.same("won: in 0, not in 2 before it", square().best(36), 3);
        told.same("won: the first of two in 2", square().best(324), 17);
        told.same("won: the first of three in 0", Check.field(5, BOW).best(72), 1);
        told.same("won: the lost one, not the won one before it", flocked(4, "01 02 03 12 23").best(491), 10);
        told.same("won: the lost one in 2, not the won one before it", squareOfTwo().get().best(169), 19);
        told.same("lost: in 5, not in 1 behind it", square().best(325), 1);
        told.same("lost: in 5, not in 1 before it", flocked(4, "01 02 03 12 23").best(169), 19);
        told.same("lost: the first of two in 3, not in 1 before them", Check.field(5, BOW).best(649), 2);
    }

    private void bestMissing() {
        told.of(15, "Throws `NoSuchElementException` if there is no such position, or it has no move");
        missing(FoxBurrows::best);
        told.given(PositionSentences::line);
        told.fails("no move", NONE, field -> field.best(343));
        told.same("one move", line().best(325), 1);
    }

    private void behind() {
        told.of(16, "Returns the position behind a move.");
        told.same("the fox up", line().after(162, 1, 2), 325);
        told.same("the fox down", line().after(198, 1, 0), 37);
        told.same("the goose", line().after(19, 1, 2), 36);
        told.same("to the highest", Check.field(8, "57").after(Check.number(5, 6, -1, false), 5, 7), 1243);
        told.same("to the lowest of the fox's", Check.field(8, "01").after(Check.number(2, 0, -1, true), 0, 1), 342);
    }

    private void inOrderAnew() {
        told.of(16, "Behind a move two geese are told in their order anew.");
        FoxBurrows field = flocked(5, "03 02 04 12 34");
        int position = Check.number(4, 0, 2, true);
        told.same("the first over the second", field.after(position, 0, 3), Check.number(4, 2, 3, false));
        told.same("the first below the second", flocked(5, "01").after(position, 0, 1), Check.number(4, 1, 2, false));
        told.same("the second", flocked(5, "23").after(position, 2, 3), Check.number(4, 0, 3, false));
    }

    private void afterMissing() {
        told.of(16, "Throws `NoSuchElementException` if there is no such position, or no such move");
        missing((field, position) -> field.after(position, 1, 2));
        told.given(PositionSentences::square);
        told.fails("not over a path", NONE, field -> field.after(504, 3, 1));
        told.fails("to its own", NONE, field -> field.after(504, 3, 3));
        told.fails("of the other one", NONE, field -> field.after(504, 1, 2));
        told.fails("from below 0", NONE, field -> field.after(504, -1, 0));
        told.fails("to below 0", NONE, field -> field.after(504, 3, -1));
        told.fails("from behind the last", NONE, field -> field.after(504, 4, 0));
        told.fails("to behind the last", NONE, field -> field.after(504, 3, 4));
        told.fails("from 2 to 8, in one number like 3 to 0", NONE, field -> field.after(504, 2, 8));
        told.fails("from 11 to 0, in bits like 3 to 0", NONE, field -> field.after(504, 11, 0));
        told.fails("the greatest", NONE, field -> field.after(504, Integer.MAX_VALUE, 0));
        told.fails("the least", NONE, field -> field.after(504, 3, Integer.MIN_VALUE));
        told.same("to 0", square().after(504, 3, 0), 19);
        told.same("to 2", square().after(504, 3, 2), 343);
        told.fails("backward", NONE, field -> field.after(505, 1, 0));
        told.same("forward", square().after(505, 1, 2), 522);
        told.given(() -> {
            FoxBurrows field = line();
            field.trap(1, true);
            return field;
        });
        told.fails("onto a trap", NONE, field -> field.after(325, 0, 1));
        told.given(squareOfTwo());
        told.fails("onto the other goose", NONE, field -> field.after(Check.number(3, 0, 1, true), 0, 1));
    }

    private void ends() {
        told.of(17, "Returns the position to which best moves lead.");
        told.of(17, "Returns the number of the position in which the game is over.");
        told.same("over already", line().ends(343), 343);
        told.same("in 1", line().ends(325), 342);
        told.same("in 2", line().ends(19), 199);
        told.same("in 3, by the first of two", square().ends(324), 55);
        told.same("in 7", square().ends(486), 217);
        FoxBurrows field = flocked(8, "01 12 23 34 45 56 67 02 13 24 35 46 57 03 14 25");
        field.begin(328);
        field.play(23);
        told.same("in 23", field.ends(328), field.now());
    }

    private void endsMissing() {
        told.of(17, "Throws `NoSuchElementException` if there is no such position, or it is drawn");
        missing(FoxBurrows::ends);
    }

    private void counts() {
        told.of(18, "`outcome`: 1 for won, 2 for lost, 0 for drawn");
        told.same("of a line", counts(line()), "0 3 3, 0 1 5");
        told.same("of a square", counts(square()), "0 12 0, 0 0 12");
        told.same("of two geese on a square", counts(flocked(4, SQUARE)), "0 4 8, 0 6 6");
        told.same("without a path", counts(Check.field(2, "")), "0 0 2, 0 0 2");
        told.same("without positions", counts(Check.field(1, "")), "0 0 0, 0 0 0");
        told.same("without burrows", counts(new FoxBurrows()), "0 0 0, 0 0 0");
    }

    private static String counts(FoxBurrows field) {
        return field.count(0, false) + " " + field.count(1, false) + " " + field.count(2, false) + ", "
            + field.count(0, true) + " " + field.count(1, true) + " " + field.count(2, true);
    }

    private void countMissing() {
        told.of(18, "Throws `IllegalArgumentException` if there is no such outcome");
        told.given(PositionSentences::line);
        told.fails("-1", WRONG, field -> field.count(-1, false));
        told.same("0", line().count(0, false), 0);
        told.same("2", line().count(2, false), 3);
        told.fails("3", WRONG, field -> field.count(3, false));
        told.fails("the greatest", WRONG, field -> field.count(Integer.MAX_VALUE, true));
        told.fails("the least", WRONG, field -> field.count(Integer.MIN_VALUE, true));
        told.given(FoxBurrows::new);
        told.fails("3 without positions", WRONG, field -> field.count(3, true));
    }

    private void longest() {
        told.of(19, "Returns the position that is won in the most moves for whoever has the turn, of several the one "
            + "with the lowest number.");
        told.same("of three in 1", line().longest(false), 36);
        told.same("of two in 1, the lowest of all", Check.field(3, "02").longest(false), 18);
        told.same("the only one", line().longest(true), 325);
        told.same("of two in 7, not lower ones in 5", square().longest(false), 162);
        told.same("of two in 3, not a lower one in 1", flocked(4, SQUARE).longest(true), 169);
    }

    private void noneLongest() {
        told.of(19, "Throws `NoSuchElementException` if none is won");
        told.given(PositionSentences::square);
        told.fails("none for the goose, though all are for the fox", NONE, field -> field.longest(true));
        told.same("for the fox", square().longest(false), 162);
        told.given(() -> Check.field(2, "01"));
        told.fails("none for the fox", NONE, field -> field.longest(false));
        told.given(() -> Check.field(1, ""));
        told.fails("no positions", NONE, field -> field.longest(false));
        told.given(FoxBurrows::new);
        told.fails("no burrows", NONE, field -> field.longest(true));
    }

    private void wonIn() {
        told.of(20, "Returns how many positions are won or lost in a number of moves.");
        told.same("of a line, in 0 and 1", line().wonIn(0) + " " + line().wonIn(1), "6 4");
        told.same("of a line, in 2 and 3", line().wonIn(2) + " " + line().wonIn(3), "2 0");
        told.same("the one before the most", square().wonIn(6), 1);
        told.same("the most", square().wonIn(7), 2);
        told.same("behind the most", square().wonIn(8), 0);
        told.same("without a path", Check.field(2, "").wonIn(0) + " " + Check.field(2, "").wonIn(1), "4 0");
        told.same("without positions", Check.field(1, "").wonIn(0), 0);
    }

    private void wonInMissing() {
        told.of(20, "Throws `IllegalArgumentException` if the number is below 0");
        told.given(PositionSentences::line);
        told.fails("-1", WRONG, field -> field.wonIn(-1));
        told.same("0", line().wonIn(0), 6);
        told.same("1", line().wonIn(1), 4);
        told.fails("the least", WRONG, field -> field.wonIn(Integer.MIN_VALUE));
        told.same("the greatest", line().wonIn(Integer.MAX_VALUE), 0);
        told.given(FoxBurrows::new);
        told.fails("-1 without positions", WRONG, field -> field.wonIn(-1));
    }

    private void wouldChange() {
        told.of(21, "Returns how many positions would be won, lost or drawn otherwise if a path was there that is not, "
            + "or was not there that is.");
        told.same("one less", line().wouldChange(0, 1) + " " + line().wouldChange(1, 2), "5 1");
        told.same("one less, the other way", line().wouldChange(1, 0) + " " + line().wouldChange(2, 1), "5 1");
        told.same("one more", line().wouldChange(0, 2) + " " + line().wouldChange(2, 0), "4 4");
        told.same("one more of none", Check.field(3, "").wouldChange(0, 1), 3);
        told.same("the only one less", Check.field(3, "01").wouldChange(0, 1), 3);
        told.same("none would", Check.field(2, "").wouldChange(0, 1) + " " + Check.field(2, "01").wouldChange(1, 0), "0 0");
        told.same("no positions", flocked(2, "").wouldChange(0, 1), 0);
        FoxBurrows field = line();
        String before = Sentences.whole(line());
        field.wouldChange(0, 2);
        told.same("it is only told", Sentences.whole(field), before);
    }

    private void sixteenPaths() {
        told.of(21, "What would change is told by won, lost and drawn alone, also if there are 16 paths.");
        told.same("in other numbers of moves alone", square().wouldChange(0, 2) + " " + square().wouldChange(1, 3), "0 0");
        FoxBurrows fewer = flocked(8, PATHS_14);
        told.same("a 15th path", fewer.wouldChange(6, 7) + " " + fewer.wouldChange(2, 5), "2 1");
        told.same("one of 14 less", fewer.wouldChange(0, 6) + " " + fewer.wouldChange(0, 1), "12 0");
        FoxBurrows one = flocked(8, PATHS_14 + " 24");
        told.same("a 16th path", one.wouldChange(6, 7) + " " + one.wouldChange(2, 5), "2 1");
        told.same("one of 15 less", one.wouldChange(0, 6) + " " + one.wouldChange(0, 1), "12 0");
        FoxBurrows full = flocked(8, PATHS_16);
        told.same("a 17th path", full.wouldChange(6, 7) + " " + full.wouldChange(2, 6), "2 1");
        told.same("one of 16 less", full.wouldChange(0, 6) + " " + full.wouldChange(0, 1), "12 0");
        told.same("the 16th less", full.wouldChange(2, 5), 1);
        told.same("16 paths still", full.account(1), 16);
    }

    private void wouldChangeMissing() {
        told.of(21, "Throws `IndexOutOfBoundsException` if there is no such burrow, for either");
        told.given(PositionSentences::line);
        Class<IndexOutOfBoundsException> outside = IndexOutOfBoundsException.class;
        told.fails("the one below 0", outside, field -> field.wouldChange(-1, 0));
        told.same("the one 0", line().wouldChange(0, 2), 4);
        told.same("the one the last", line().wouldChange(2, 0), 4);
        told.fails("the one behind the last", outside, field -> field.wouldChange(3, 0));
        told.fails("the other below 0", outside, field -> field.wouldChange(0, -1));
        told.fails("the other behind the last", outside, field -> field.wouldChange(0, 3));
        told.fails("the greatest", outside, field -> field.wouldChange(0, Integer.MAX_VALUE));
        told.fails("the least", outside, field -> field.wouldChange(Integer.MIN_VALUE, 0));
        told.given(FoxBurrows::new);
        told.fails("without burrows", outside, field -> field.wouldChange(0, 0));
    }

    private void wouldChangeBoth() {
        told.of(21, "Throws `IllegalArgumentException` if both are one");
        told.of(21, FIRST_LISTED);
        told.given(PositionSentences::line);
        told.fails("no burrow, and both are one, below", IndexOutOfBoundsException.class, field -> field.wouldChange(-1, -1));
        told.fails("0", WRONG, field -> field.wouldChange(0, 0));
        told.same("0 and its neighbour", line().wouldChange(0, 1), 5);
        told.fails("the last", WRONG, field -> field.wouldChange(2, 2));
        told.fails("no burrow, and both are one, above", IndexOutOfBoundsException.class, field -> field.wouldChange(3, 3));
    }

    private void bestBurrow() {
        told.of(22, "Returns the burrow for the fox, with all else as it is, from which the fewest moves win for the "
            + "fox, of several the lowest; also its own.");
        told.same("in 3, not in 7 below and above", square().bestBurrow(162), 2);
        told.same("from above", square().bestBurrow(486), 2);
        told.same("its own", square().bestBurrow(324), 2);
        told.same("the last, in 1, not in 5 below", square().bestBurrow(18), 3);
        told.same("of three in 1 the lowest", square().bestBurrow(378), 0);
        told.same("with the turn of the goose, of two in 2", square().bestBurrow(487), 1);
        told.same("with the turn of the goose, lost at once", square().bestBurrow(505), 2);
        told.same("with the turn of the goose, not the goose's own", square().bestBurrow(19), 2);
        told.same("the only one", line().bestBurrow(162), 2);
        told.same("of two geese", squareOfTwo().get().bestBurrow(Check.number(1, 2, 3, false)), 0);
        told.same("of two geese, the only one", squareOfTwo().get().bestBurrow(Check.number(0, 1, 2, true)), 3);
    }

    private void bestBurrowOnTrap() {
        told.of(22, "The best burrow can be a trap.");
        FoxBurrows field = line();
        field.trap(0, true);
        told.same("another is no trap", field.bestBurrow(324), 2);
        told.same("the trap, from elsewhere", field.bestBurrow(198), 0);
        told.same("the trap, its own", field.bestBurrow(36), 0);
    }

    private void noBestBurrow() {
        told.of(22, "Throws `NoSuchElementException` if there is no such position, or no burrow wins for the fox");
        missing(FoxBurrows::bestBurrow);
        told.given(squareOfTwo());
        told.fails("none with the turn of the fox", NONE, field -> field.bestBurrow(Check.number(0, 1, 3, false)));
        told.same("one", squareOfTwo().get().bestBurrow(Check.number(0, 1, 2, false)), 0);
        told.fails("none with the turn of the geese", NONE, field -> field.bestBurrow(Check.number(2, 0, 1, true)));
        told.same("one with the turn of the geese", squareOfTwo().get().bestBurrow(Check.number(3, 1, 2, true)), 3);
    }

    private void mean() {
        told.of(32, "Returns the mean number of moves in which positions that are won or lost are so: the sum divided "
            + "by their number, both as doubles.");
        told.same("all in 0", Check.field(2, "01").meanMoves(), 0.0);
        told.same("of a line", line().meanMoves(), 8.0 / 12.0);
        told.same("of a square", square().meanMoves(), 58.0 / 24.0);
    }

    private void noMean() {
        told.of(32, "Throws `ArithmeticException` if there are none");
        withoutPositions(FoxBurrows::meanMoves);
        told.same("with the fewest positions", Check.field(2, "").meanMoves(), 0.0);
        told.same("with the fewest of two geese", flocked(3, "").meanMoves(), 0.0);
    }

    private void withoutPositions(Sentences.Use use) {
        told.given(FoxBurrows::new);
        told.fails("no burrows", ArithmeticException.class, use);
        told.given(() -> Check.field(1, ""));
        told.fails("one burrow", ArithmeticException.class, use);
        told.given(() -> flocked(2, "01"));
        told.fails("two burrows, two geese", ArithmeticException.class, use);
    }

    private void drawn() {
        told.of(33, "Returns the share of the positions that are drawn, both numbers as floats.");
        told.same("none of a square", square().drawn(), 0.0f);
        told.same("none of the most", flocked(8, PATHS_16).drawn(), 0.0f);
    }

    private void noShare() {
        told.of(33, "Throws `ArithmeticException` if there are no positions");
        withoutPositions(FoxBurrows::drawn);
        told.same("with the fewest positions", Check.field(2, "").drawn(), 0.0f);
        told.same("with the fewest of two geese", flocked(3, "").drawn(), 0.0f);
    }
}
