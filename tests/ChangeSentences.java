/** Promises 35 to 37, and for how many calls an object is used: what names a boundary of undo and the snapshot. */
final class ChangeSentences {
    private static final String NO_MORE = IllegalStateException.class.getName();
    private static final String SQUARE = "01 12 23 30";

    private final Sentences told;

    ChangeSentences(Sentences told) {
        this.told = told;
    }

    void all() {
        whatCanBeUndone();
        whatCannotBeUndone();
        latestEight();
        whatStays();
        callsLeft();
        nothingToUndo();
        inPlaceOfEarlier();
        burrowsSaved();
        restored();
        forgotten();
        burrowsRestored();
        noSnapshot();
        latestCalls();
    }

    /** A square, a burrow with a trap beside it, and a game of two moves; it is restored, so nothing can be undone. */
    private static FoxBurrows busy() {
        FoxBurrows field = Check.field(5, SQUARE);
        field.trap(4, true);
        field.begin(486);
        field.play(2);
        field.save();
        field.restore();
        return field;
    }

    private static FoxBurrows dug(int burrows) {
        return Check.field(burrows, "");
    }

    private void whatCanBeUndone() {
        told.of(35, "What can be undone are the successful calls of dig, tread, grow, trap, flock, begin, move, play, "
            + "back and commands.");
        told.of(35, "Undoes the latest call that can be undone.");
        undone("dig", FoxBurrows::dig);
        undone("tread", field -> field.tread(0, 2));
        undone("grow", field -> field.grow(0, 1));
        undone("a trap made", field -> field.trap(2, true));
        undone("a trap filled", field -> field.trap(4, false));
        undone("flock", field -> field.flock(2));
        undone("begin", field -> field.begin(54));
        undone("move", field -> field.move(2, 3));
        undone("play of one move", field -> field.play(1));
        undone("play of more moves", field -> field.play(40));
        undone("back", FoxBurrows::back);
        undone("commands: one", field -> Check.commands(field, "d"));
        undone("commands: ten", field -> Check.commands(field, "u;u;a1;d;d;d;t3;f3;g2;b24"));
    }

    private void undone(String what, Sentences.Use use) {
        FoxBurrows field = busy();
        told.same(what + ": none before", field.account(9), 0);
        use.on(field);
        told.same(what + ": one then", field.account(9), 1);
        told.same(what + ": undone", field.undo(), 0);
        told.same(what + ": what there was before", Sentences.whole(field), Sentences.whole(busy()));
    }

    private void whatCannotBeUndone() {
        told.of(35, "the successful calls of");
        FoxBurrows field = busy();
        Sentences.Use[] uses = {x -> x.tread(0, 1), x -> x.grow(0, 2), x -> x.trap(4, true), x -> x.flock(1), x -> x.begin(0),
            x -> x.move(0, 0), x -> x.play(0), x -> Check.commands(x, "d;d;d;d"), x -> Check.commands(x, "?"), FoxBurrows::save,
            FoxBurrows::line, x -> x.wouldChange(0, 1), x -> x.outcomeAgain(486), x -> x.reason(0), x -> x.append('d')};
        for (int i = 0; i < uses.length; i++) {
            Sentences.Use use = uses[i];
            Check.thrownBy(() -> use.on(field));
            told.same("none by call " + i, field.account(9), 0);
        }
        told.same("nothing to undo", Check.thrownBy(field::undo), NO_MORE);
        told.same("one by the text", field.commands() + " " + field.account(9), "1 1");
        FoxBurrows full = dug(8);
        full.undo();
        full.dig();
        Check.thrownBy(full::dig);
        Check.thrownBy(full::back);
        told.same("refused ones push none out", undone(full), "7 6 5 4 3 2 1 0 with 0 burrows");
    }

    private void latestEight() {
        told.of(35, "What there was before each of the latest 8 is kept;");
        told.same("of 7 changes", undone(dug(7)), "6 5 4 3 2 1 0 with 0 burrows");
        told.same("of 8 changes", undone(dug(8)), "7 6 5 4 3 2 1 0 with 0 burrows");
        FoxBurrows nine = dug(8);
        nine.trap(0, true);
        told.same("of 9 changes", undone(nine), "7 6 5 4 3 2 1 0 with 1 burrows");
        FoxBurrows ten = dug(8);
        ten.trap(0, true);
        ten.trap(1, true);
        told.same("of 10 changes", undone(ten), "7 6 5 4 3 2 1 0 with 2 burrows");
        FoxBurrows many = dug(8);
        for (int burrow = 0; burrow < 8; burrow++) {
            many.trap(burrow, true);
        }
        many.trap(0, false);
        told.same("of 17 changes", undone(many) + ", " + many.account(2) + " trap", "7 6 5 4 3 2 1 0 with 8 burrows, 1 trap");
        FoxBurrows again = dug(8);
        again.undo();
        again.undo();
        again.flock(2);
        told.same("of 6 and another one", undone(again), "6 5 4 3 2 1 0 with 0 burrows");
    }

    private static String undone(FoxBurrows field) {
        StringBuilder text = new StringBuilder();
        for (int i = 0; i < 9 && field.account(9) > 0; i++) {
            text.append(field.undo()).append(' ');
        }
        return text + "with " + field.account(0) + " burrows";
    }

    private void whatStays() {
        told.of(35, "The text buffer, the fault position, the reason and the line do not belong to it, and stay.");
        FoxBurrows field = busy();
        field.play(1);
        Check.thrownBy(() -> Check.commands(field, "u;u;u;u"));
        Check.thrownBy(() -> Check.commands(field, "d;t"));
        field.line();
        Check.type(field, "d;d");
        String due = "d;d of 3, fault 3, reason 11 0 3, line 3f2 0g1 2f3";
        told.same("before", staying(field), due);
        field.undo();
        told.same("behind undo", staying(field), due);
        told.same("two moves then", field.account(7), 2);
        field.back();
        field.restore();
        told.same("behind restore", staying(field), due);
        told.same("two moves then too", field.account(7), 2);
        told.same("the text is still there", field.commands() + " " + field.account(0), "2 7");
        told.same("behind commands", Sentences.reason(field) + " " + Sentences.written(field), "11 0 3 3f2 0g1 2f3");
    }

    private static String staying(FoxBurrows field) {
        return "d;d of " + field.account(10) + ", fault " + field.faultPosition() + ", reason " + Sentences.reason(field) + ", line "
            + Sentences.written(field);
    }

    private void callsLeft() {
        told.of(35, "Returns the number of calls that can still be undone.");
        told.same("of 1", dug(1).undo(), 0);
        told.same("of 2", dug(2).undo(), 1);
        told.same("of 7", dug(7).undo(), 6);
        told.same("of 8", dug(8).undo(), 7);
        told.same("of 9", Check.field(8, "01").undo(), 7);
    }

    private void nothingToUndo() {
        told.of(35, "Throws `IllegalStateException` if there is none");
        told.given(FoxBurrows::new);
        told.fails("none at first", IllegalStateException.class, FoxBurrows::undo);
        told.same("one", dug(1).undo(), 0);
        told.given(() -> {
            FoxBurrows field = dug(1);
            field.undo();
            return field;
        });
        told.fails("the only one undone", IllegalStateException.class, FoxBurrows::undo);
        told.given(() -> {
            FoxBurrows field = Check.field(8, "01");
            undone(field);
            return field;
        });
        told.fails("8 undone of 9", IllegalStateException.class, FoxBurrows::undo);
        told.given(ChangeSentences::busy);
        told.fails("restored", IllegalStateException.class, FoxBurrows::undo);
    }

    private void inPlaceOfEarlier() {
        told.of(36, "Saves all that can be undone, in place of an earlier snapshot.");
        FoxBurrows field = busy();
        String before = picture(field);
        field.save();
        Check.commands(field, "u;u;a1;d;t3;g2;x0-1;p0-2;b24");
        told.same("all is another then", picture(field).equals(before), false);
        field.restore();
        told.same("all is saved", picture(field), before);
        field.dig();
        String later = picture(field);
        field.save();
        field.trap(0, true);
        field.restore();
        told.same("the later one", picture(field), later.replace("changes 1", "changes 0"));
        FoxBurrows kept = dug(3);
        told.same("no change, and none forgotten", kept.save() + " " + kept.account(9) + " " + kept.undo(), "3 3 2");
    }

    private static String picture(FoxBurrows field) {
        int[] accounts = {0, 1, 2, 3, 7, 8};
        StringBuilder text = new StringBuilder("changes " + field.account(9) + " ");
        for (int what : accounts) {
            text.append(field.account(what)).append(' ');
        }
        for (int path = 0; path < field.account(1); path++) {
            text.append(field.pathOf(path, false)).append(field.pathOf(path, true)).append(' ');
        }
        for (int burrow = 0; burrow < field.account(0); burrow++) {
            text.append(field.burrowOf(burrow, 2));
        }
        return text + Check.thrownBy(field::now) + Check.line(field);
    }

    private void burrowsSaved() {
        told.of(36, "Returns how many burrows there are.");
        told.same("none", new FoxBurrows().save(), 0);
        told.same("one", dug(1).save(), 1);
        told.same("the most", dug(8).save(), 8);
    }

    private void restored() {
        told.of(37, "Restores what was saved; the snapshot is kept.");
        FoxBurrows field = busy();
        String before = picture(field);
        for (int i = 0; i < 3; i++) {
            field.play(1);
            field.flock(2);
            told.same("time " + i, field.restore() + " " + picture(field), "5 " + before);
        }
        told.same("once more, with nothing between", field.restore() + " " + picture(field), "5 " + before);
        field.back();
        field.undo();
        told.same("after undo", field.restore() + " " + picture(field), "5 " + before);
    }

    private void forgotten() {
        told.of(37, "restore forgets it.");
        FoxBurrows field = dug(2);
        field.save();
        told.same("two changes", field.account(9), 2);
        field.restore();
        told.same("none then", field.account(9), 0);
        told.same("nothing to undo", Check.thrownBy(field::undo), NO_MORE);
        field.dig();
        told.same("one anew", field.account(9) + " " + field.undo() + " " + field.account(0), "1 0 2");
        FoxBurrows full = dug(8);
        full.save();
        full.restore();
        full.tread(0, 1);
        told.same("one of eight before", undone(full), "0 with 8 burrows");
    }

    private void burrowsRestored() {
        told.of(37, "Returns how many burrows there are.");
        FoxBurrows none = new FoxBurrows();
        none.save();
        none.dig();
        told.same("none", none.restore(), 0);
        FoxBurrows most = dug(8);
        most.save();
        undone(most);
        told.same("the most", most.restore(), 8);
        told.same("one", saved(dug(1)).restore(), 1);
    }

    private static FoxBurrows saved(FoxBurrows field) {
        field.save();
        return field;
    }

    private void noSnapshot() {
        told.of(37, "Throws `IllegalStateException` if there is no snapshot");
        told.givenBare(FoxBurrows::new);
        told.fails("none at first", IllegalStateException.class, FoxBurrows::restore);
        told.givenBare(() -> Check.field(8, SQUARE));
        told.fails("none behind changes, which are not forgotten", IllegalStateException.class, FoxBurrows::restore);
        told.same("one", saved(new FoxBurrows()).restore(), 0);
    }

    /** The 510th to the 512th call are as the first ones; what a 513th answers is free. */
    private void latestCalls() {
        told.of(35, "An object is used for at most 512 calls after it has been made;");
        FoxBurrows playing = called(509);
        told.same("510: begin", playing.begin(324), 1);
        told.same("511: move", playing.move(2, 1), 0);
        told.same("512: now", playing.now(), 163);
        FoxBurrows undoing = called(510);
        told.same("511: the changes", undoing.account(9), 8);
        told.same("512: undo", undoing.undo(), 7);
        FoxBurrows solving = called(510);
        told.same("511: moves of a position", solving.positionOf(19, 6), 2);
        told.same("512: what would change", solving.wouldChange(0, 2), 4);
        FoxBurrows refusing = called(511);
        told.same("512: a refused call", Check.thrownBy(() -> refusing.tread(0, 1)), UnsupportedOperationException.class.getName());
    }

    /** A line 0-1-2 on which so many calls were made, the last ones to make a trap and to fill it; none is left. */
    private static FoxBurrows called(int calls) {
        FoxBurrows field = Check.field(3, "01 12");
        int rest = calls - 5;
        if (rest % 2 == 1) {
            field.save();
            rest--;
        }
        for (int i = 0; i < rest; i++) {
            field.trap(0, i % 2 == 0);
        }
        return field;
    }
}
