import java.util.List;
import java.util.function.Consumer;

/** Promises 35 to 37: undo, save and restore. */
public final class ChangesTest {
    private static final Check CHECK = new Check();

    public static void main(String[] arguments) {
        undoOfEach();
        latestEight();
        whatStays();
        otherLines();
        saveAndRestore();
        CHECK.end("ChangesTest");
    }

    private static final List<Consumer<FoxBurrows>> CHANGES = List.of(FoxBurrows::dig, FoxBurrows::dig, FoxBurrows::dig,
        field -> field.tread(0, 1), field -> field.tread(2, 1), field -> field.trap(0, true),
        field -> field.begin(field.position(2, 0, -1, true)), field -> field.move(0, 1), FoxBurrows::back,
        field -> field.play(1), field -> Check.commands(field, "u;a2"), field -> field.grow(0, 1),
        field -> field.trap(0, false), field -> field.flock(2));

    private static FoxBurrows changed(int changes) {
        FoxBurrows field = new FoxBurrows();
        for (Consumer<FoxBurrows> change : CHANGES.subList(0, changes)) {
            change.accept(field);
        }
        return field;
    }

    private static void undoOfEach() {
        for (int undone = 1; undone <= 8; undone++) {
            FoxBurrows field = changed(CHANGES.size());
            int left = 8;
            for (int i = 0; i < undone; i++) {
                left = field.undo();
            }
            CHECK.same("undo", left, 8 - undone);
            CHECK.same("what there was", told(field), told(changed(CHANGES.size() - undone)));
        }
        FoxBurrows field = changed(CHANGES.size());
        for (int i = 0; i < 8; i++) {
            field.undo();
        }
        CHECK.fails("no more", IllegalStateException.class, field::undo);
        CHECK.same("unchanged", told(field), told(changed(CHANGES.size() - 8)));
    }

    /** The picture without the account of changes, which undo makes less. */
    private static String told(FoxBurrows field) {
        String[] parts = Check.picture(field).split(" ");
        parts[9] = "";
        return String.join(" ", parts) + Check.line(field);
    }

    private static void latestEight() {
        FoxBurrows field = Check.field(8, "01 02");
        CHECK.same("eight", field.account(9), 8);
        field.tread(0, 3);
        CHECK.same("eight still", field.account(9), 8);
        for (int i = 7; i >= 0; i--) {
            CHECK.same("undo", field.undo(), i);
        }
        CHECK.same("burrows left", field.account(0), 3);
        field.dig();
        CHECK.same("one again", field.account(9), 1);
        field.undo();
        CHECK.same("number anew", field.dig(), 3);
    }

    private static void whatStays() {
        FoxBurrows field = Check.field(3, "01 12");
        field.begin(field.position(2, 0, -1, true));
        field.move(0, 1);
        Check.line(field);
        Check.type(field, "q");
        CHECK.fails("a fault", IllegalArgumentException.class, field::commands);
        CHECK.refused("a reason", field, 9, 1, () -> field.play(2));
        field.append('x');
        field.save();
        field.undo();
        field.undo();
        CHECK.same("no game", field.account(7), -1);
        CHECK.same("no game begun", field.account(8), 0);
        stays("undo", field);
        field.restore();
        CHECK.same("the game", field.account(7), 1);
        CHECK.same("a game begun", field.account(8), 1);
        stays("restore", field);
    }

    private static void stays(String what, FoxBurrows field) {
        CHECK.same(what + ": buffer", field.account(10), 1);
        CHECK.same(what + ": fault", field.faultPosition(), 0);
        CHECK.reason(what, field, 9, 1, 0);
        CHECK.same(what + ": line", field.character(1), 'g');
    }

    /** A line of play comes back although another one was played in its place. */
    private static void otherLines() {
        FoxBurrows field = Check.field(4, "01 12 23 30");
        int start = field.position(3, 1, -1, false);
        field.begin(start);
        field.move(3, 0);
        field.save();
        CHECK.same("another move", Check.commands(field, "u;m3>2"), 2);
        CHECK.same("another line", Check.line(field), "3f2");
        field.undo();
        CHECK.same("undone", Check.line(field) + " " + field.now(), "3f0 " + field.position(0, 1, -1, true));
        Check.commands(field, "b0018");
        CHECK.same("a game from elsewhere", field.now(), 18);
        field.restore();
        CHECK.same("restored", Check.line(field) + " " + field.now(), "3f0 " + field.position(0, 1, -1, true));
        field.back();
        CHECK.same("the start too", field.now(), start);
    }

    private static void saveAndRestore() {
        FoxBurrows field = new FoxBurrows();
        CHECK.fails("no snapshot", IllegalStateException.class, field::restore);
        CHECK.same("save", field.save(), 0);
        field.dig();
        field.dig();
        CHECK.same("restore", field.restore(), 0);
        CHECK.same("changes are forgotten", field.account(9), 0);
        CHECK.fails("nothing to undo", IllegalStateException.class, field::undo);
        field.dig();
        field.dig();
        field.tread(1, 0);
        field.begin(field.position(1, 0, -1, false));
        CHECK.same("in place of an earlier one", field.save(), 2);
        String before = told(field);
        field.undo();
        field.undo();
        field.undo();
        field.undo();
        CHECK.same("save is no change", field.account(0), 0);
        CHECK.same("kept", field.restore(), 2);
        CHECK.same("all is back", told(field), before);
        field.flock(2);
        CHECK.same("twice", field.restore(), 2);
        CHECK.same("all is back again", told(field), before);
    }
}
