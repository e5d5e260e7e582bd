import java.io.IOException;
import java.util.List;

/** Promises 1 to 37: for each sentence of the document that names a boundary a test, told by the number and the sentence. */
public final class SentenceTest {
    /** Sentences that name no boundary. */
    private static final List<String> PLAIN = List.of(
        "what later calls answer is free.", "A burrow told won is won in so many moves.",
        "Divisions are rounded down, unless something else is told.", "Burrows and paths.", "Pieces.", "Positions.",
        "In a position the fox, the geese and whose turn it is are told.", "The end.", "Best moves.", "The game.",
        "Texts.", "Reasons.", "Changes.", "Details.", "Exceptions.", "Makes a move of the game.",
        "Lets the game play.", "Returns the number of a position.", "Returns a number of a position.",
        "Returns a move of a position.", "Returns the best move of a position.",
        "Returns how many positions are won, lost or drawn for whoever has the turn.",
        "Returns a number of a burrow.", "Returns a burrow of a path.", "Returns the position of the game.",
        "Returns a number of the reason that is kept.", "Returns an account.", "Returns its number.",
        "Returns the number.", "Returns how many.", "Returns the burrow.", "Returns the character.",
        "Returns the mean.", "Returns the share.", "Returns the account.", "`one`: the one burrow",
        "`other`: the other burrow", "`burrow`: the burrow", "`isTrap`: whether it is a trap then",
        "`position`: the position, as a number", "`from`: the burrow from which a piece moves",
        "`to`: the burrow to which it moves", "`fox`: the burrow of the fox",
        "`first`: the burrow of the first goose", "`isGeese`: whether it is the turn of the geese",
        "`from`: the burrow from which", "`to`: the burrow to which",
        "`isGeese`: whether it is the turn of the geese in them",
        "`isGeese`: whether it is the turn of the geese in it", "`moves`: the number", "`path`: the path",
        "`character`: the character");

    public static void main(String[] arguments) throws IOException {
        Check check = new Check();
        Sentences told = new Sentences(check);
        new FieldSentences(told).all();
        new GameSentences(told).all();
        new PositionSentences(told).all();
        new TextSentences(told).all();
        new ChangeSentences(told).all();
        told.end(PLAIN);
        check.end("SentenceTest");
    }
}
