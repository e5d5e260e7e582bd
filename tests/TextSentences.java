import java.util.NoSuchElementException;

/** Promises 26 to 29: what names a boundary of texts, their faults and reasons. */
final class TextSentences {
    private static final Class<IllegalArgumentException> WRONG = IllegalArgumentException.class;
    private static final String SQUARE = "01 12 23 30";

    private final Sentences told;

    TextSentences(Sentences told) {
        this.told = told;
    }

    void all() {
        lengthOfBuffer();
        fullBuffer();
        oneOrMore();
        eachCommand();
        burrowDigits();
        geeseDigit();
        positionDigits();
        moveDigits();
        tooEarly();
        cannotContinue();
        faultAtEnd();
        noneCarriedOut();
        emptyAfterwards();
        numberOfCommands();
        commandsFaulty();
        commandsRefused();
        faultPosition();
        whatOfReason();
        reasonWhat();
        noReason();
        indexOfCommand();
        detailsOfTexts();
    }

    /** A square with a game in which two moves are made, a reason, a line and a snapshot. */
    private static FoxBurrows busy() {
        FoxBurrows field = Check.field(4, SQUARE);
        field.begin(486);
        field.save();
        field.play(2);
        Check.thrownBy(() -> field.tread(2, 2));
        field.line();
        return field;
    }

    private static FoxBurrows typed(int characters) {
        FoxBurrows field = busy();
        Check.type(field, "d".repeat(characters));
        return field;
    }

    private static FoxBurrows done(String text) {
        FoxBurrows field = busy();
        Check.commands(field, text);
        return field;
    }

    private void lengthOfBuffer() {
        told.of(26, "Appends a character to the text buffer.");
        told.of(26, "Returns the new length of the buffer.");
        told.same("the first", new FoxBurrows().append('d'), 1);
        told.same("the second", typed(1).append('d'), 2);
        told.same("the 59th", typed(58).append('d'), 59);
        told.same("the 60th", typed(59).append('d'), 60);
        told.same("the first after a text", done("d").append('d'), 1);
        char[] any = {0, 127, 128, 255, 256, Character.MAX_VALUE};
        for (char character : any) {
            told.same("the character " + (int) character, typed(1).append(character), 2);
        }
    }

    private void fullBuffer() {
        told.of(26, "Throws `IllegalStateException` if the buffer contains 60 characters");
        told.same("with 58", typed(58).append(';'), 59);
        told.same("with 59", typed(59).append(';'), 60);
        told.givenBare(() -> typed(60));
        told.fails("with 60", IllegalStateException.class, field -> field.append('d'));
        told.same("with 60 still", typed(60).account(10), 60);
        FoxBurrows field = typed(60);
        told.same("a fault", Check.thrownBy(field::commands), WRONG.getName());
        told.same("empty again", field.append('d'), 1);
    }

    private void oneOrMore() {
        told.of(27, "The text buffer holds one or more commands with \";\" between them: \"d\" digs a burrow;");
        told.givenBare(TextSentences::busy);
        told.faulty("", 0);
        told.faulty(";", 0);
        told.faulty(";d", 0);
        told.same("one", done("d").account(0), 5);
        told.faulty("d;", 2);
        told.faulty("dd", 1);
        told.faulty("d,d", 1);
        told.faulty("d;;d", 2);
        told.same("two", done("d;d").account(0), 6);
        told.same("four", done("d;d;d;d").account(0), 8);
        told.refusedText("d;d;d;d;d", 2, 8, 4);
    }

    /** A text does what the method does. */
    private void as(String text, Sentences.Use use) {
        FoxBurrows field = busy();
        use.on(field);
        told.same(text, Sentences.whole(done(text)), Sentences.whole(field));
    }

    private void eachCommand() {
        told.of(27, "\"p\", a burrow, \"-\" and a burrow treads a path; \"x\", a burrow, \"-\" and a burrow lets it "
            + "grow over; \"t\" and a burrow makes a trap, and \"f\" and a burrow fills it; \"g\" and a number tells "
            + "how many geese there are; \"b\" and a position begins a game; \"m\", a burrow, \">\" and a burrow "
            + "moves; \"a\" and a number lets play; and \"u\" takes a move back.");
        told.of(27, "The commands are carried out as the methods would, all of them or none.");
        as("d", FoxBurrows::dig);
        as("p3-1", field -> field.tread(3, 1));
        as("p0-2", field -> field.tread(0, 2));
        as("x3-0", field -> field.grow(3, 0));
        as("x2-1", field -> field.grow(2, 1));
        as("t0", field -> field.trap(0, true));
        as("t3", field -> field.trap(3, true));
        as("g2", field -> field.flock(2));
        as("b18", field -> field.begin(18));
        as("b505", field -> field.begin(505));
        as("m2>3", field -> field.move(2, 3));
        as("a1", field -> field.play(1));
        as("a40", field -> field.play(40));
        as("u", FoxBurrows::back);
        FoxBurrows field = done("t1");
        told.same("a trap", field.account(2), 1);
        told.same("filled", Check.commands(field, "f1") + " " + field.account(2), "1 0");
        told.same("two geese and one", done("g2;g1").account(3), 1);
    }

    private void burrowDigits() {
        told.of(27, "Burrows and the number of geese are one digit, positions 1 to 4, the number of moves 1 or 2.");
        told.givenBare(TextSentences::busy);
        digit("t", "");
        digit("f", "");
        digit("p", "-0");
        digit("p0-", "");
        digit("x", "-2");
        digit("x2-", "");
        digit("m", ">3");
        digit("m2>", "");
        told.refusedText("t8", 3, 8, 0);
        told.refusedText("t9", 3, 9, 0);
        told.refusedText("p9-8", 3, 9, 0);
        told.refusedText("p0-8", 3, 8, 0);
        told.refusedText("x8-0", 3, 8, 0);
        told.refusedText("x0-9", 3, 9, 0);
        told.refusedText("m9>3", 10, 1, 0);
        told.refusedText("m2>9", 10, 1, 0);
    }

    /** No digit, or two, or a neighbour of 0 or of 9 among the characters, is a fault. */
    private void digit(String before, String after) {
        int place = before.length();
        told.faulty(before + after, place);
        told.faulty(before + "00" + after, place + 1);
        told.faulty(before + "/" + after, place);
        told.faulty(before + ":" + after, place);
        told.faulty(before + (char) 0x660 + after, place);
    }

    private void geeseDigit() {
        told.of(27, "Burrows and the number of geese are one digit");
        told.givenBare(TextSentences::busy);
        digit("g", "");
        told.refusedText("g0", 1, 0, 0);
        told.refusedText("g1", 5, 0, 0);
        told.same("g2", done("g2").account(3), 2);
        told.refusedText("g3", 1, 0, 0);
        told.refusedText("g9", 1, 0, 0);
        told.faulty("g10", 2);
    }

    private void positionDigits() {
        told.of(27, "positions 1 to 4");
        told.givenBare(TextSentences::busy);
        told.faulty("b", 1);
        told.faulty("b;", 1);
        told.refusedText("b9", 7, 9, 0);
        told.refusedText("b0", 7, 0, 0);
        told.same("two digits", done("b18").now(), 18);
        told.same("three digits", done("b487").now(), 487);
        told.same("four digits", done("b0487").now(), 487);
        told.refusedText("b1000", 7, 1000, 0);
        told.refusedText("b9999", 7, 9999, 0);
        told.faulty("b00487", 5);
        told.faulty("b12345", 5);
        told.faulty("b-1", 1);
        told.faulty("b487:", 4);
        told.faulty("b487/", 4);
        FoxBurrows large = Check.field(8, "");
        told.same("four digits that are needed", Check.commands(large, "b1243") + " " + large.now(), "1 1243");
    }

    private void moveDigits() {
        told.of(27, "the number of moves 1 or 2");
        told.givenBare(TextSentences::busy);
        told.faulty("a", 1);
        told.faulty("a;", 1);
        told.refusedText("a0", 1, 0, 0);
        told.refusedText("a00", 1, 0, 0);
        told.same("one digit", done("a3").account(7), 5);
        told.same("two digits", done("a03").account(7), 5);
        told.same("40", done("a40").account(7), 7);
        told.refusedText("a41", 1, 0, 0);
        told.refusedText("a99", 1, 0, 0);
        told.faulty("a003", 3);
        told.faulty("a400", 3);
        told.faulty("a4:", 2);
        told.faulty("a-1", 1);
    }

    private void tooEarly() {
        told.of(28, "The fault position of a text is the index of its first character that cannot continue such a "
            + "text, or the length of the text if it ends too early.");
        told.givenBare(TextSentences::busy);
        String[] early = {"", "p", "p0", "p0-", "x", "x3", "x3-", "t", "f", "g", "b", "m", "m2", "m2>", "a"};
        for (String text : early) {
            told.faulty(text, text.length());
            told.faulty("d;" + text, text.length() + 2);
            told.faulty("b0486;" + text, text.length() + 6);
        }
    }

    private void cannotContinue() {
        told.of(28, "the index of its first character that cannot continue such a text");
        told.givenBare(TextSentences::busy);
        String[] whole = {"d", "p1-3", "x3-0", "t1", "f1", "g2", "b0486", "m2>3", "a40", "u"};
        for (String text : whole) {
            told.faulty(text + "d", text.length());
            told.faulty(text + " ", text.length());
            told.faulty(text + "-;", text.length());
            told.faulty("d;" + text + "0;?", text.length() + 2);
            for (int i = 0; i < text.length(); i++) {
                told.faulty(text.substring(0, i) + "?" + text.substring(i + 1), i);
            }
        }
        told.faulty("D", 0);
        told.faulty("e", 0);
        told.faulty("c", 0);
        told.faulty(" d", 0);
        told.faulty("m2-3", 2);
        told.faulty("p1>3", 2);
        told.faulty("x1>3", 2);
        told.faulty("d\0", 1);
        told.faulty("\0", 0);
        told.faulty((char) ('d' + 256) + "", 0);
    }

    /** Texts of 59 and of 60 characters. */
    private void faultAtEnd() {
        told.of(28, "or the length of the text if it ends too early.");
        told.givenBare(TextSentences::busy);
        String most = "a1;".repeat(19) + "a1";
        told.same("59 characters", most.length(), 59);
        told.refusedText(most, 9, 7, 5);
        told.faulty(most + ";", 60);
        told.faulty(most + "?", 59);
        told.refusedText(most + "0", 9, 7, 5);
        told.faulty(most.substring(0, 58), 58);
        told.faulty("?" + most, 0);
    }

    private void noneCarriedOut() {
        told.of(27, "Carries out the commands in the text buffer, one after the other; if one is refused, none is "
            + "carried out.");
        told.givenBare(TextSentences::busy);
        told.refusedText("p2-2", 4, 2, 0);
        told.refusedText("p2-2;d", 4, 2, 0);
        told.refusedText("d;p2-2", 4, 2, 1);
        told.refusedText("d;p2-2;d", 4, 2, 1);
        told.refusedText("x0-1;t0;g2;b1;d", 7, 1, 3);
        told.refusedText("u;u;u", 11, 0, 2);
        told.same("one less", done("u;u").account(7), 0);
        told.refusedText("b523;a1", 9, 0, 1);
        told.same("one after the other", Sentences.written(lined(done("u;u;m3>2;m0>3;a1"))), "3f2 0g3 2f1");
    }

    private static FoxBurrows lined(FoxBurrows field) {
        field.line();
        return field;
    }

    private void emptyAfterwards() {
        told.of(27, "The buffer is empty afterwards, also if an exception is thrown.");
        told.same("after it is done", done("d").account(10), 0);
        told.same("then a text anew", Check.commands(done("d"), "d"), 1);
        told.givenBare(TextSentences::busy);
        told.refusedText("d;t9", 3, 9, 1);
        told.faulty("d;t", 3);
        FoxBurrows field = busy();
        Check.type(field, "d;t9");
        Check.thrownBy(field::commands);
        told.same("after it is refused", field.account(10) + " " + field.append('d'), "0 1");
        Check.type(field, "?");
        Check.thrownBy(field::commands);
        told.same("after a fault", field.account(10) + " " + field.append('d'), "0 1");
        told.same("the text anew alone", field.commands(), 1);
    }

    /** A text of 60 characters has 30 commands at most; those that can all be done have 28, as a game has 25 moves. */
    private void numberOfCommands() {
        told.of(27, "Returns the number of commands.");
        told.same("one", Check.commands(busy(), "d"), 1);
        told.same("two", Check.commands(busy(), "d;d"), 2);
        String back = "u;".repeat(25);
        told.same("27", Check.commands(GameSentences.longGame(25), back + "g1;g2"), 27);
        FoxBurrows field = GameSentences.longGame(25);
        told.same("28", Check.commands(field, back + "g1;g2;g1"), 28);
        told.same("all of them", field.account(3) + " " + field.account(7), "1 -1");
        told.same("one change", field.undo() + " " + field.account(7), "7 25");
        told.givenBare(() -> GameSentences.longGame(25));
        told.refusedText(back + "g1;g2;g1;u", 8, 0, 28);
        told.refusedText("u;".repeat(29) + "u", 11, 0, 25);
        told.faulty("u;".repeat(30), 60);
        FoxBurrows empty = new FoxBurrows();
        told.same("eight of 30 fit", Check.thrownBy(() -> Check.commands(empty, "d;".repeat(29) + "d")),
            UnsupportedOperationException.class.getName());
        told.same("not the ninth", Sentences.reason(empty) + ", " + empty.account(0), "2 8 8, 0");
    }

    private void commandsFaulty() {
        told.of(27, "Throws `IllegalArgumentException` if the text has a fault");
        told.of(27, "If several conditions of a method are fulfilled, the one that is listed first determines the "
            + "exception.");
        told.givenBare(TextSentences::busy);
        told.faulty("p2-2;d;", 7);
        told.faulty("t9;?", 3);
        told.faulty("d;d;d;d;d;d;u1", 13);
        told.faulty("t9:", 2);
        told.same("no fault", Check.commands(busy(), "t3"), 1);
    }

    private void commandsRefused() {
        told.of(27, "Throws `UnsupportedOperationException` if a command is refused; the reason is kept");
        told.givenBare(TextSentences::busy);
        told.refusedText("t9", 3, 9, 0);
        told.same("none refused", Check.commands(busy(), "t3"), 1);
        told.same("the reason before it stays then", Sentences.reason(done("t3")), "4 2 0");
    }

    private void faultPosition() {
        told.of(28, "Returns the fault position of the text of the latest call of commands. Returns the fault "
            + "position, or -1 if that text had no fault or there was no such call.");
        FoxBurrows field = busy();
        told.same("no such call", new FoxBurrows().faultPosition() + " " + field.faultPosition(), "-1 -1");
        told.same("an empty text", faultOf(field, ""), 0);
        told.same("done", faultOf(field, "t3"), -1);
        told.same("a fault", faultOf(field, "t3;"), 3);
        told.same("another one", faultOf(field, "?"), 0);
        field.append('d');
        told.same("until the next call", field.faultPosition(), 0);
        told.same("refused", faultOf(field, ";t9"), -1);
        told.same("a fault again", faultOf(field, "t99"), 2);
        Check.thrownBy(() -> field.tread(9, 9));
        told.same("other calls leave it", field.faultPosition(), 2);
    }

    private static int faultOf(FoxBurrows field, String text) {
        Check.type(field, text);
        Check.thrownBy(field::commands);
        return field.faultPosition();
    }

    private void whatOfReason() {
        told.of(29, "`what`: 0 for the reason, 1 for its detail, 2 for the index of the command");
        FoxBurrows field = busy();
        Check.thrownBy(() -> Check.commands(field, "d;d;t9"));
        told.same("0", field.reason(0), 3);
        told.same("1", field.reason(1), 9);
        told.same("2", field.reason(2), 2);
    }

    private void reasonWhat() {
        told.of(29, "Throws `IllegalArgumentException` if what is not from 0 to 2");
        told.given(TextSentences::busy);
        told.fails("-1", WRONG, field -> field.reason(-1));
        told.same("0", busy().reason(0), 4);
        told.same("2", busy().reason(2), 0);
        told.fails("3", WRONG, field -> field.reason(3));
        told.fails("the greatest", WRONG, field -> field.reason(Integer.MAX_VALUE));
        told.fails("the least", WRONG, field -> field.reason(Integer.MIN_VALUE));
        told.given(FoxBurrows::new);
        told.fails("3, and nothing was refused", WRONG, field -> field.reason(3));
        told.fails("-1, and nothing was refused", WRONG, field -> field.reason(-1));
    }

    private void noReason() {
        told.of(29, "Throws `NoSuchElementException` if nothing was refused");
        told.given(FoxBurrows::new);
        for (int what = 0; what <= 2; what++) {
            int number = what;
            told.fails("what " + what, NoSuchElementException.class, field -> field.reason(number));
        }
        told.given(() -> {
            FoxBurrows field = Check.field(2, "01");
            Check.thrownBy(() -> Check.commands(field, "?"));
            Check.thrownBy(() -> field.wouldChange(0, 0));
            Check.thrownBy(field::now);
            return field;
        });
        told.fails("a fault and other exceptions", NoSuchElementException.class, field -> field.reason(0));
        FoxBurrows field = Check.field(2, "01");
        Check.thrownBy(() -> field.tread(0, 1));
        told.same("one refused", Sentences.reason(field), "5 0 0");
    }

    private void indexOfCommand() {
        told.of(29, "The reason is kept with the index of the command of a text, from 0, or 0 for another call.");
        FoxBurrows field = busy();
        told.same("of a call", Sentences.reason(field), "4 2 0");
        told.same("of the second", reasonOf(field, "d;t9"), "3 9 1");
        told.same("of the first", reasonOf(field, "t9;d"), "3 9 0");
        told.same("of the third, the last", reasonOf(field, "d;d;p1-1"), "4 1 2");
        Check.thrownBy(() -> field.flock(1));
        told.same("of a call after a text", Sentences.reason(field), "5 0 0");
        told.same("of the second again", reasonOf(field, "d;g0"), "1 0 1");
        told.same("a text that is done leaves it", reasonOf(field, "d;d"), "1 0 1");
        Check.thrownBy(() -> field.trap(7, true));
        told.same("of a call after a text that is done", Sentences.reason(field), "3 7 0");
    }

    private static String reasonOf(FoxBurrows field, String text) {
        Check.type(field, text);
        Check.thrownBy(field::commands);
        return Sentences.reason(field);
    }

    /** Each reason once more, told by a text. */
    private void detailsOfTexts() {
        told.of(29, "1, a number is out of range; 2, there would be more than there can be: how many there can be; 3, "
            + "there is no such burrow: its number; 4, both burrows are one: the burrow; 5, it is so already; 6, there "
            + "is no path between them: the burrow told first; 7, there is no such position: the number; 8, there is "
            + "no game; 9, the game is over: how many moves it had; 10, there is no such move: how many moves there "
            + "are; 11, no move was made.");
        told.givenBare(TextSentences::busy);
        told.refusedText("g2;a41", 1, 0, 1);
        told.refusedText("d;d;d;d;d;d", 2, 8, 4);
        told.refusedText("d;t5", 3, 5, 1);
        told.refusedText("d;p4-4", 4, 4, 1);
        told.refusedText("t1;t1", 5, 0, 1);
        told.refusedText("f1", 5, 0, 0);
        told.refusedText("x1-2;x1-2", 6, 1, 1);
        told.refusedText("x1-2;x2-1", 6, 2, 1);
        told.refusedText("b486;b20", 7, 20, 1);
        told.refusedText("d;u", 8, 0, 1);
        told.refusedText("t1;m2>3", 8, 0, 1);
        told.refusedText("a40;m0>1", 9, 7, 1);
        told.refusedText("m2>3;m2>3", 10, 1, 1);
        told.refusedText("m3>3", 10, 1, 0);
        told.refusedText("b486;u", 11, 0, 1);
    }
}
