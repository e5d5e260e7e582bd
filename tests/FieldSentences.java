import java.util.NoSuchElementException;
import java.util.function.Supplier;

/** Promises 1 to 6, 23, 24 and 34: what names a boundary of burrows, paths, traps, geese and accounts. */
final class FieldSentences {
    private static final String PATHS_14 = "01 02 03 04 05 06 07 12 13 14 15 16 17 23";
    private static final String PATHS_15 = PATHS_14 + " 24";
    private static final String PATHS_16 = PATHS_15 + " 25";
    private static final String REFUSED = "Throws `UnsupportedOperationException` if it is refused for the reason ";
    private static final String FIRST_LISTED =
        "If several conditions of a method are fulfilled, the one that is listed first determines the exception.";

    private final Sentences told;

    FieldSentences(Sentences told) {
        this.told = told;
    }

    void all() {
        newObject();
        oneGooseAtFirst();
        eightBurrows();
        digRefused();
        sixteenPaths();
        onePathBetween();
        treadWithoutOne();
        treadWithoutOther();
        treadToItself();
        treadAgain();
        treadTooMany();
        laterPaths();
        pathsLeft();
        growWithoutBurrow();
        growWithoutPath();
        eachCanBeTrap();
        trapsThen();
        trapRefused();
        geese();
        flockRefused();
        whatOfBurrow();
        winsOfBurrow();
        burrowOfMissing();
        burrowOfWhat();
        burrowOfBoth();
        firstAndOther();
        pathOfMissing();
        gameEnds();
        gameStays();
        whatOfAccount();
        accountsOfPositions();
        accountsOfGame();
        accountWhat();
    }

    private static Supplier<FoxBurrows> field(int burrows, String paths) {
        return () -> Check.field(burrows, paths);
    }

    private static String accounts(FoxBurrows field) {
        return field.account(0) + " " + field.account(1) + " " + field.account(2) + " " + field.account(3);
    }

    private void newObject() {
        told.of(1, "Creates a field without burrows, with one goose.");
        told.same("burrows, paths, traps and geese", accounts(new FoxBurrows()), "0 0 0 1");
        told.same("the first burrow", new FoxBurrows().dig(), 0);
        told.given(FoxBurrows::new);
        told.refused("no burrow 0", 3, 0, field -> field.trap(0, true));
        told.fails("nothing about a burrow 0", IndexOutOfBoundsException.class, field -> field.burrowOf(0, 0));
        told.fails("no path 0", IndexOutOfBoundsException.class, field -> field.pathOf(0, false));
        told.refused("no position", 7, 18, field -> field.begin(18));
    }

    private void oneGooseAtFirst() {
        told.of(1, "There are one fox and at most 2 geese, told by a number, at first 1.");
        told.given(FoxBurrows::new);
        told.refused("not 0 geese", 1, 0, field -> field.flock(0));
        told.refused("1 already", 5, 0, field -> field.flock(1));
        told.same("2 geese", new FoxBurrows().flock(2), 1);
        told.refused("not 3 geese", 1, 0, field -> field.flock(3));
    }

    private void eightBurrows() {
        told.of(2, "Digs a burrow. Returns its number.");
        told.of(2, "At most 8 burrows are dug, numbered from 0.");
        FoxBurrows field = new FoxBurrows();
        for (int number = 0; number < 8; number++) {
            told.same("burrow " + number, field.dig(), number);
            told.same("burrows then", field.account(0), number + 1);
        }
        told.given(field(8, ""));
        told.refused("the ninth", 2, 8, FoxBurrows::dig);
    }

    private void digRefused() {
        told.of(2, REFUSED + "2; the reason is kept");
        FoxBurrows field = Check.field(7, "");
        told.same("with 7 burrows", field.dig(), 7);
        field.undo();
        told.same("with 7 burrows again", field.dig(), 7);
        told.same("nothing refused so far", Sentences.reason(field), NoSuchElementException.class.getName());
        told.given(field(8, "01 12"));
        told.refused("with 8 burrows", 2, 8, FoxBurrows::dig);
        told.given(() -> inGame(Check.field(8, "01 12"), 36));
        told.refused("with 8 burrows, in a game", 2, 8, FoxBurrows::dig);
    }

    private static FoxBurrows inGame(FoxBurrows field, int position) {
        field.begin(position);
        return field;
    }

    private void sixteenPaths() {
        told.of(3, "Treads a path.");
        told.of(3, "Returns its number.");
        told.of(3, "At most 16 paths are trodden, numbered from 0, each between two burrows;");
        FoxBurrows first = Check.field(8, "");
        told.same("the first", first.tread(7, 0), 0);
        told.same("the second", first.tread(6, 0), 1);
        FoxBurrows field = Check.field(8, PATHS_14);
        told.same("the 15th", field.tread(2, 4), 14);
        told.same("the 16th", field.tread(5, 2), 15);
        told.same("16 paths", field.account(1), 16);
        told.same("its one burrow", field.pathOf(15, false), 5);
        told.same("its other burrow", field.pathOf(15, true), 2);
        told.given(field(8, PATHS_16));
        told.refused("the 17th", 2, 16, x -> x.tread(2, 6));
        FoxBurrows full = Check.field(8, PATHS_16);
        full.grow(0, 1);
        told.same("another 16th", full.tread(0, 1), 15);
    }

    private void onePathBetween() {
        told.of(3, "there is at most one between the same two.");
        told.given(field(3, "01"));
        told.refused("a second one", 5, 0, field -> field.tread(0, 1));
        told.refused("a second one, the other way", 5, 0, field -> field.tread(1, 0));
        FoxBurrows field = Check.field(3, "01");
        told.same("one that shares a burrow", field.tread(0, 2), 1);
        told.same("one that shares the other", field.tread(2, 1), 2);
        field.grow(1, 0);
        told.same("one again if it grew over", field.tread(1, 0), 2);
    }

    private void treadWithoutOne() {
        told.of(3, REFUSED + "3, for the one, then for the other, 4, 5 or 2; the reason is kept");
        told.given(field(3, "01"));
        told.refused("the one below 0", 3, -1, field -> field.tread(-1, 0));
        told.same("the one 0", Check.field(3, "01").tread(0, 2), 1);
        told.same("the one the last", Check.field(3, "01").tread(2, 0), 1);
        told.refused("the one behind the last", 3, 3, field -> field.tread(3, 0));
        told.refused("the one 8", 3, 8, field -> field.tread(8, 0));
        told.refused("the one before the other", 3, 4, field -> field.tread(4, 3));
        told.refused("the one before both are one", 3, 3, field -> field.tread(3, 3));
        told.refused("the greatest", 3, Integer.MAX_VALUE, field -> field.tread(Integer.MAX_VALUE, 0));
        told.refused("the least", 3, Integer.MIN_VALUE, field -> field.tread(Integer.MIN_VALUE, 0));
        told.given(field(8, PATHS_16));
        told.refused("before too many", 3, 8, field -> field.tread(8, 2));
        told.given(FoxBurrows::new);
        told.refused("without burrows", 3, 0, field -> field.tread(0, 0));
    }

    private void treadWithoutOther() {
        told.of(3, "3, there is no such burrow: its number;");
        told.given(field(3, "01"));
        told.refused("the other below 0", 3, -1, field -> field.tread(2, -1));
        told.same("the other 0", Check.field(3, "01").tread(2, 0), 1);
        told.same("the other the last", Check.field(3, "01").tread(1, 2), 1);
        told.refused("the other behind the last", 3, 3, field -> field.tread(2, 3));
        told.refused("the other 8", 3, 8, field -> field.tread(0, 8));
        told.refused("the other -8", 3, -8, field -> field.tread(0, -8));
        told.refused("the greatest", 3, Integer.MAX_VALUE, field -> field.tread(0, Integer.MAX_VALUE));
        told.refused("the least", 3, Integer.MIN_VALUE, field -> field.tread(0, Integer.MIN_VALUE));
        told.given(field(8, PATHS_16));
        told.refused("before too many", 3, 8, field -> field.tread(2, 8));
    }

    private void treadToItself() {
        told.of(3, "4, both burrows are one: the burrow;");
        told.given(field(3, "01"));
        told.refused("0 and 0", 4, 0, field -> field.tread(0, 0));
        told.same("0 and its neighbour in number", Check.field(3, "").tread(0, 1), 0);
        told.refused("the last and itself", 4, 2, field -> field.tread(2, 2));
        told.same("the last and the one before it", Check.field(3, "").tread(2, 1), 0);
        told.given(field(8, PATHS_16));
        told.refused("before too many", 4, 7, field -> field.tread(7, 7));
    }

    private void treadAgain() {
        told.of(3, "5, it is so already;");
        told.given(field(8, PATHS_16));
        told.refused("the first path, before too many", 5, 0, field -> field.tread(1, 0));
        told.refused("the last path, before too many", 5, 0, field -> field.tread(2, 5));
        told.given(field(8, PATHS_15));
        told.refused("the last path, with room for one more", 5, 0, field -> field.tread(2, 4));
    }

    private void treadTooMany() {
        told.of(3, "2, there would be more than there can be: how many there can be;");
        told.same("one more than 15", Check.field(8, PATHS_15).tread(6, 7), 15);
        told.given(field(8, PATHS_16));
        told.refused("one more than 16", 2, 16, field -> field.tread(6, 7));
        told.refused("one more than 16, the other way", 2, 16, field -> field.tread(7, 6));
    }

    private static String paths(FoxBurrows field) {
        StringBuilder text = new StringBuilder();
        for (int path = 0; path < field.account(1); path++) {
            text.append(field.pathOf(path, false)).append(field.pathOf(path, true)).append(' ');
        }
        return text.toString().strip();
    }

    private static String grown(String paths, int one, int other) {
        FoxBurrows field = Check.field(8, paths);
        field.grow(one, other);
        return paths(field);
    }

    private void laterPaths() {
        told.of(4, "Lets a path grow over; the numbers of the later ones become 1 less.");
        told.same("the first", grown("01 21 23 30", 0, 1), "21 23 30");
        told.same("the second", grown("01 21 23 30", 1, 2), "01 23 30");
        told.same("the one before the last", grown("01 21 23 30", 2, 3), "01 21 30");
        told.same("the last", grown("01 21 23 30", 3, 0), "01 21 23");
        told.same("the only one", grown("01", 0, 1), "");
        told.same("the first of 16", grown(PATHS_16, 0, 1), PATHS_16.substring(3));
        told.same("the last of 16", grown(PATHS_16, 2, 5), PATHS_15);
    }

    private void pathsLeft() {
        told.of(4, "Returns how many paths there are then.");
        told.same("of 16", Check.field(8, PATHS_16).grow(5, 2), 15);
        FoxBurrows field = Check.field(3, "01 12");
        told.same("of 2", field.grow(1, 0), 1);
        told.same("of 1", field.grow(1, 2), 0);
        told.same("a path that is there no more", field.burrowOf(1, 0), 0);
    }

    private void growWithoutBurrow() {
        told.of(4, REFUSED + "3, for the one, then for the other, or 6; the reason is kept");
        told.given(field(3, "01 12"));
        told.refused("the one below 0", 3, -1, field -> field.grow(-1, 1));
        told.same("the one 0", Check.field(3, "01 12").grow(0, 1), 1);
        told.same("the one the last", Check.field(3, "01 12").grow(2, 1), 1);
        told.refused("the one behind the last", 3, 3, field -> field.grow(3, 1));
        told.refused("the one before the other", 3, 4, field -> field.grow(4, -2));
        told.refused("the other below 0", 3, -1, field -> field.grow(1, -1));
        told.same("the other 0", Check.field(3, "01 12").grow(1, 0), 1);
        told.same("the other the last", Check.field(3, "01 12").grow(1, 2), 1);
        told.refused("the other behind the last", 3, 3, field -> field.grow(1, 3));
        told.refused("no burrow, and no path to itself", 3, 3, field -> field.grow(3, 3));
        told.refused("the greatest", 3, Integer.MAX_VALUE, field -> field.grow(0, Integer.MAX_VALUE));
        told.refused("the least", 3, Integer.MIN_VALUE, field -> field.grow(Integer.MIN_VALUE, 0));
        told.given(FoxBurrows::new);
        told.refused("without burrows", 3, 0, field -> field.grow(0, 0));
    }

    private void growWithoutPath() {
        told.of(4, "6, there is no path between them: the burrow told first;");
        told.given(field(3, "01 12"));
        told.refused("between the ends", 6, 0, field -> field.grow(0, 2));
        told.refused("between the ends, the other way", 6, 2, field -> field.grow(2, 0));
        told.refused("to itself", 6, 1, field -> field.grow(1, 1));
        told.given(field(2, ""));
        told.refused("without paths", 6, 1, field -> field.grow(1, 0));
        told.given(() -> {
            FoxBurrows field = Check.field(2, "01");
            field.grow(0, 1);
            return field;
        });
        told.refused("grown over already", 6, 0, field -> field.grow(0, 1));
    }

    private void eachCanBeTrap() {
        told.of(5, "A burrow can be a trap.");
        FoxBurrows field = Check.field(8, "");
        for (int burrow = 0; burrow < 8; burrow++) {
            told.same("none before: " + burrow, field.burrowOf(burrow, 2), 0);
            told.same("traps then", field.trap(burrow, true), burrow + 1);
            told.same("one then: " + burrow, field.burrowOf(burrow, 2), 1);
        }
    }

    private void trapsThen() {
        told.of(5, "Makes a burrow a trap, or fills it.");
        told.of(5, "Returns how many traps there are then.");
        FoxBurrows field = Check.field(2, "");
        told.same("the first", field.trap(1, true), 1);
        told.same("each", field.trap(0, true), 2);
        told.same("one filled", field.trap(1, false), 1);
        told.same("which", field.burrowOf(0, 2) + " " + field.burrowOf(1, 2), "1 0");
        told.same("all filled", field.trap(0, false), 0);
    }

    private void trapRefused() {
        told.of(5, REFUSED + "3 or 5; the reason is kept");
        told.given(field(3, "01"));
        told.refused("below 0", 3, -1, field -> field.trap(-1, true));
        told.same("0", Check.field(3, "01").trap(0, true), 1);
        told.same("the last", Check.field(3, "01").trap(2, true), 1);
        told.refused("behind the last", 3, 3, field -> field.trap(3, true));
        told.refused("behind the last, before no trap already", 3, 3, field -> field.trap(3, false));
        told.refused("32, whose bit is that of 0", 3, 32, field -> field.trap(32, true));
        told.refused("the greatest", 3, Integer.MAX_VALUE, field -> field.trap(Integer.MAX_VALUE, true));
        told.refused("the least", 3, Integer.MIN_VALUE, field -> field.trap(Integer.MIN_VALUE, false));
        told.refused("none already", 5, 0, field -> field.trap(1, false));
        told.given(() -> {
            FoxBurrows field = Check.field(3, "01");
            field.trap(1, true);
            return field;
        });
        told.refused("one already", 5, 0, field -> field.trap(1, true));
        told.refused("none already, beside one", 5, 0, field -> field.trap(2, false));
        told.given(FoxBurrows::new);
        told.refused("without burrows", 3, 0, field -> field.trap(0, true));
    }

    private void geese() {
        told.of(6, "Tells how many geese there are.");
        told.of(6, "Returns how many there were.");
        told.of(6, "`geese`: how many, 1 or 2");
        told.given(field(3, "01"));
        told.refused("0", 1, 0, field -> field.flock(0));
        FoxBurrows field = Check.field(3, "01");
        told.same("2", field.flock(2), 1);
        told.same("2 then", field.account(3), 2);
        told.same("1", field.flock(1), 2);
        told.same("1 then", field.account(3), 1);
        told.refused("3", 1, 0, x -> x.flock(3));
    }

    private void flockRefused() {
        told.of(6, REFUSED + "1 or 5; the reason is kept");
        told.of(6, "1, a number is out of range;");
        told.of(6, "If nothing else is told, the detail is 0.");
        told.given(field(3, "01"));
        told.refused("below 0", 1, 0, field -> field.flock(-1));
        told.refused("the least", 1, 0, field -> field.flock(Integer.MIN_VALUE));
        told.refused("the greatest", 1, 0, field -> field.flock(Integer.MAX_VALUE));
        told.refused("1 already", 5, 0, field -> field.flock(1));
        told.given(() -> {
            FoxBurrows field = Check.field(3, "01");
            field.flock(2);
            return field;
        });
        told.refused("0 with 2", 1, 0, field -> field.flock(0));
        told.refused("2 already", 5, 0, field -> field.flock(2));
        told.refused("3 with 2", 1, 0, field -> field.flock(3));
    }

    private void whatOfBurrow() {
        told.of(23, "`what`: 0 for the paths that end there, 1 for those to burrows with greater numbers, 2 for 1 if "
            + "it is a trap, otherwise 0, 3 for the positions with the fox there that are won for the fox, whoever has "
            + "the turn");
        FoxBurrows field = Check.field(8, "70 71 27 73 47 75 67 43");
        told.same("1 path, up", field.burrowOf(0, 0) + " " + field.burrowOf(0, 1), "1 1");
        told.same("2 paths, both up", field.burrowOf(3, 0) + " " + field.burrowOf(3, 1), "2 2");
        told.same("1 down, 1 up", field.burrowOf(4, 0) + " " + field.burrowOf(4, 1), "2 1");
        told.same("7 paths, none up", field.burrowOf(7, 0) + " " + field.burrowOf(7, 1), "7 0");
        FoxBurrows turned = Check.field(8, "01 20 03 04 50 06 07");
        told.same("7 paths, all up", turned.burrowOf(0, 0) + " " + turned.burrowOf(0, 1), "7 7");
        told.same("1 path, none up", turned.burrowOf(1, 0) + " " + turned.burrowOf(1, 1), "1 0");
        FoxBurrows bare = Check.field(1, "");
        told.same("no path", bare.burrowOf(0, 0) + " " + bare.burrowOf(0, 1), "0 0");
        told.same("no trap", bare.burrowOf(0, 2), 0);
        bare.trap(0, true);
        told.same("a trap", bare.burrowOf(0, 2), 1);
        bare.trap(0, false);
        told.same("filled", bare.burrowOf(0, 2), 0);
    }

    /** On 0-1-2 the fox wins all positions but 3 of the 4 of each turn; on two burrows nobody can move. */
    private void winsOfBurrow() {
        told.of(23, "3 for the positions with the fox there that are won for the fox, whoever has the turn");
        FoxBurrows line = Check.field(3, "01 12");
        told.same("on 0 of a line", line.burrowOf(0, 3), 3);
        told.same("on 1 of a line", line.burrowOf(1, 3), 3);
        told.same("on 2 of a line", line.burrowOf(2, 3), 2);
        told.same("on 0, also in the lowest position", Check.field(3, "02").burrowOf(0, 3), 3);
        told.same("on one of two burrows, with the turn of the goose", Check.field(2, "01").burrowOf(0, 3), 1);
        told.same("without a goose's burrow", Check.field(1, "").burrowOf(0, 3), 0);
        FoxBurrows three = Check.field(3, "");
        three.flock(2);
        told.same("with two geese", three.burrowOf(0, 3), 1);
    }

    private void burrowOfMissing() {
        told.of(23, "Throws `IndexOutOfBoundsException` if there is no such burrow");
        told.given(field(3, "01 12"));
        told.fails("below 0", IndexOutOfBoundsException.class, field -> field.burrowOf(-1, 0));
        told.same("0", Check.field(3, "01 12").burrowOf(0, 0), 1);
        told.same("the last", Check.field(3, "01 12").burrowOf(2, 0), 1);
        told.fails("behind the last", IndexOutOfBoundsException.class, field -> field.burrowOf(3, 0));
        told.fails("8", IndexOutOfBoundsException.class, field -> field.burrowOf(8, 3));
        told.fails("the greatest", IndexOutOfBoundsException.class, field -> field.burrowOf(Integer.MAX_VALUE, 1));
        told.fails("the least", IndexOutOfBoundsException.class, field -> field.burrowOf(Integer.MIN_VALUE, 2));
        told.given(FoxBurrows::new);
        told.fails("without burrows", IndexOutOfBoundsException.class, field -> field.burrowOf(0, 0));
    }

    private void burrowOfWhat() {
        told.of(23, "Throws `IllegalArgumentException` if what is not from 0 to 3");
        told.given(field(3, "01 12"));
        told.fails("-1", IllegalArgumentException.class, field -> field.burrowOf(1, -1));
        FoxBurrows field = Check.field(3, "01 12");
        told.same("0 and 1", field.burrowOf(1, 0) + " " + field.burrowOf(1, 1), "2 1");
        told.same("2 and 3", field.burrowOf(1, 2) + " " + field.burrowOf(1, 3), "0 3");
        told.fails("4", IllegalArgumentException.class, x -> x.burrowOf(1, 4));
        told.fails("the greatest", IllegalArgumentException.class, x -> x.burrowOf(1, Integer.MAX_VALUE));
        told.fails("the least", IllegalArgumentException.class, x -> x.burrowOf(1, Integer.MIN_VALUE));
    }

    private void burrowOfBoth() {
        told.of(23, FIRST_LISTED);
        told.given(field(3, "01 12"));
        told.fails("no burrow and no what", IndexOutOfBoundsException.class, field -> field.burrowOf(3, 4));
        told.fails("no burrow and no what, below", IndexOutOfBoundsException.class, field -> field.burrowOf(-1, -1));
    }

    private void firstAndOther() {
        told.of(24, "`isOther`: false for the burrow that was told first, true for the other one");
        told.same("upward", paths(Check.field(8, "07")), "07");
        told.same("downward", paths(Check.field(8, "70")), "70");
    }

    private void pathOfMissing() {
        told.of(24, "Throws `IndexOutOfBoundsException` if there is no such path");
        told.given(field(3, "20 12"));
        told.fails("below 0", IndexOutOfBoundsException.class, field -> field.pathOf(-1, false));
        told.same("0", Check.field(3, "20 12").pathOf(0, false), 2);
        told.same("the last", Check.field(3, "20 12").pathOf(1, true), 2);
        told.fails("behind the last", IndexOutOfBoundsException.class, field -> field.pathOf(2, true));
        told.fails("the greatest", IndexOutOfBoundsException.class, field -> field.pathOf(Integer.MAX_VALUE, true));
        told.fails("the least", IndexOutOfBoundsException.class, field -> field.pathOf(Integer.MIN_VALUE, false));
        told.given(field(3, ""));
        told.fails("without paths", IndexOutOfBoundsException.class, field -> field.pathOf(0, false));
        told.given(field(8, PATHS_16));
        told.same("the last of 16", Check.field(8, PATHS_16).pathOf(15, true), 5);
        told.fails("behind 16", IndexOutOfBoundsException.class, field -> field.pathOf(16, true));
        told.given(() -> {
            FoxBurrows field = Check.field(3, "20 12");
            field.grow(2, 0);
            return field;
        });
        told.fails("the number that was the last one's", IndexOutOfBoundsException.class, field -> field.pathOf(1, false));
    }

    /** 0-1-2 with a trap on 3 and a game in which the fox moved once. */
    private static FoxBurrows played() {
        FoxBurrows field = Check.field(4, "01 12");
        field.trap(3, true);
        field.begin(162);
        field.move(1, 2);
        return field;
    }

    private void gameEnds() {
        told.of(34, "When a burrow is dug, a path is trodden or grows over, a trap is made or filled, or the number of "
            + "geese becomes another one, the game ends, and there is none.");
        ends("dig", FoxBurrows::dig);
        ends("tread", field -> field.tread(0, 2));
        ends("grow", field -> field.grow(0, 1));
        ends("a trap made", field -> field.trap(1, true));
        ends("a trap filled", field -> field.trap(3, false));
        ends("two geese", field -> field.flock(2));
        FoxBurrows field = played();
        field.flock(2);
        field.begin(324 + 18 + 8);
        field.flock(1);
        told.same("one goose again", field.account(7), -1);
    }

    private void ends(String what, Sentences.Use use) {
        FoxBurrows field = played();
        told.same(what + ": a game before", field.account(7) + " " + field.now(), "1 325");
        use.on(field);
        told.same(what + ": no game", field.account(7), -1);
        told.same(what + ": nothing in the line", field.line(), 0);
        told.given(() -> {
            FoxBurrows ended = played();
            use.on(ended);
            return ended;
        });
        told.fails(what + ": no position", NoSuchElementException.class, FoxBurrows::now);
        told.refused(what + ": no move", 8, 0, x -> x.move(0, 1));
        told.refused(what + ": no play", 8, 0, x -> x.play(1));
        told.refused(what + ": nothing to take back", 8, 0, FoxBurrows::back);
    }

    private void gameStays() {
        told.of(34, "A call that throws an exception leaves the state unchanged, unless stated otherwise.");
        told.given(() -> {
            FoxBurrows field = Check.field(8, "01 12");
            field.trap(3, true);
            field.begin(162);
            field.move(1, 2);
            return field;
        });
        told.refused("dig", 2, 8, FoxBurrows::dig);
        told.refused("tread", 5, 0, field -> field.tread(0, 1));
        told.refused("grow", 6, 0, field -> field.grow(0, 2));
        told.refused("trap", 5, 0, field -> field.trap(3, true));
        told.refused("flock", 5, 0, field -> field.flock(1));
        told.refused("begin", 7, 0, field -> field.begin(0));
        told.refused("move", 10, 1, field -> field.move(2, 1));
        told.refused("play", 1, 0, field -> field.play(0));
    }

    private void whatOfAccount() {
        told.of(34, "`what`: 0 for the burrows, 1 for the paths, 2 for the traps, 3 for the geese, 4 for all "
            + "positions, 5 for those in which there is no move, 6 for the greatest number of moves in which one is "
            + "won or lost, -1 if there is none, 7 for the moves made in the game, -1 without a game, 8 for the games "
            + "begun so far, 9 for the changes that can be undone, 10 for the characters in the text buffer");
        account("burrows", 0, new FoxBurrows(), 0);
        account("burrows", 0, Check.field(8, ""), 8);
        account("paths", 1, Check.field(8, ""), 0);
        account("paths", 1, Check.field(8, PATHS_16), 16);
        FoxBurrows trapped = Check.field(2, "");
        account("traps", 2, trapped, 0);
        trapped.trap(0, true);
        account("traps", 2, trapped, 1);
        account("geese", 3, trapped, 1);
        trapped.flock(2);
        account("geese", 3, trapped, 2);
        FoxBurrows changed = new FoxBurrows();
        for (int i = 0; i < 8; i++) {
            account("changes", 9, changed, i);
            changed.dig();
        }
        account("changes", 9, changed, 8);
        changed.tread(0, 1);
        account("changes", 9, changed, 8);
        for (int i = 0; i < 60; i++) {
            account("characters", 10, changed, i);
            changed.append('d');
        }
        account("characters", 10, changed, 60);
    }

    private void account(String what, int number, FoxBurrows field, int due) {
        told.same(what + " " + due, field.account(number), due);
    }

    private void accountsOfPositions() {
        told.of(34, "There are no positions with more pieces than burrows.");
        account("positions without burrows", 4, new FoxBurrows(), 0);
        account("positions on 1 burrow", 4, Check.field(1, ""), 0);
        account("none without a move", 5, Check.field(1, ""), 0);
        account("no greatest number", 6, Check.field(1, ""), -1);
        account("positions on 2 burrows", 4, Check.field(2, "01"), 4);
        account("all without a move", 5, Check.field(2, "01"), 4);
        account("the greatest number", 6, Check.field(2, "01"), 0);
        account("some without a move", 5, Check.field(3, "01 12"), 6);
        account("the greatest number of a line", 6, Check.field(3, "01 12"), 2);
        FoxBurrows lowest = Check.field(4, "02 12 13");
        lowest.trap(1, true);
        account("the greatest number, of the lowest position alone", 6, lowest, 3);
        account("the greatest number of a square", 6, Check.field(4, "01 12 23 30"), 7);
        account("positions on 8 burrows", 4, Check.field(8, ""), 112);
        account("positions of two geese on 2 burrows", 4, flocked(2), 0);
        account("no greatest number of two geese on 2 burrows", 6, flocked(2), -1);
        account("positions of two geese on 3 burrows", 4, flocked(3), 6);
        account("positions of two geese on 8 burrows", 4, flocked(8), 336);
        account("all of them without a move", 5, flocked(8), 336);
    }

    private static FoxBurrows flocked(int burrows) {
        FoxBurrows field = Check.field(burrows, "");
        field.flock(2);
        return field;
    }

    private void accountsOfGame() {
        told.of(34, "7 for the moves made in the game, -1 without a game, 8 for the games begun so far");
        FoxBurrows field = Check.field(3, "01 12");
        account("without a game", 7, field, -1);
        account("no game so far", 8, field, 0);
        field.begin(162);
        account("no move so far", 7, field, 0);
        account("one game", 8, field, 1);
        field.move(1, 2);
        account("one move", 7, field, 1);
        field.begin(162);
        account("no move anew", 7, field, 0);
        account("two games", 8, field, 2);
        field.dig();
        account("without a game again", 7, field, -1);
        account("two games still", 8, field, 2);
        told.same("a refused begin", Check.thrownBy(() -> field.begin(0)), "java.lang.UnsupportedOperationException");
        account("two games even then", 8, field, 2);
    }

    private void accountWhat() {
        told.of(34, "Throws `IllegalArgumentException` if what is not from 0 to 10");
        told.given(FieldSentences::played);
        told.fails("-1", IllegalArgumentException.class, field -> field.account(-1));
        told.same("0", played().account(0), 4);
        told.same("10", played().account(10), 0);
        told.fails("11", IllegalArgumentException.class, field -> field.account(11));
        told.fails("the greatest", IllegalArgumentException.class, field -> field.account(Integer.MAX_VALUE));
        told.fails("the least", IllegalArgumentException.class, field -> field.account(Integer.MIN_VALUE));
    }
}
