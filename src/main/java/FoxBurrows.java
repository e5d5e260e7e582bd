import java.util.NoSuchElementException;

public final class FoxBurrows {
    private static final int MOST_BURROWS = 8;
    private static final int MOST_PATHS = 16;
    private static final int MOST_GEESE = 2;
    private static final int MOST_MOVES = 40;
    private static final int MOST_UNDONE = 8;
    private static final int MOST_CHARACTERS = 60;
    /** A command has one character at least, and ";" stands between two. */
    private static final int MOST_COMMANDS = 30;
    /** Each of 40 moves is written with three characters, and blanks stand between. */
    private static final int MOST_SIGNS = 160;

    /** The share of each piece in the number of a position. */
    private static final int FOX_SHARE = 162;
    private static final int FIRST_SHARE = 18;
    private static final int SECOND_SHARE = 2;
    /** All numbers of positions are below this one. */
    private static final int NUMBERS = 1296;
    /** The fox on 8 burrows, two geese on 7 of the others in 21 ways, two turns. */
    private static final int MOST_POSITIONS = 336;

    private static final int NONE = -1;
    private static final int REFUSED = -1;

    private static final int DRAWN = 0;
    private static final int WON = 1;
    private static final int LOST = 2;

    private static final int OUT_OF_RANGE = 1;
    private static final int TOO_MANY = 2;
    private static final int NO_BURROW = 3;
    private static final int BOTH_ARE_ONE = 4;
    private static final int ALREADY_SO = 5;
    private static final int NO_PATH = 6;
    private static final int NO_POSITION = 7;
    private static final int NO_GAME = 8;
    private static final int GAME_IS_OVER = 9;
    private static final int NO_SUCH_MOVE = 10;
    private static final int NOTHING_MADE = 11;

    private final State state = new State();
    private final State before = new State();
    private final State saved = new State();
    private boolean hasSaved;
    private final Changes changes = new Changes();
    private final Field trialField = new Field();
    private final Table table = new Table();
    private final Table trialTable = new Table();
    private final SecondWay secondWay = new SecondWay();
    private final Text buffer = new Text();
    private final Text written = new Text();
    private final Reader reader = new Reader();
    private final Reason kept = new Reason();
    private int fault = NONE;
    private int command;
    private int versions;

    public FoxBurrows() {
    }

    // ------------------------------------------------------------ the field

    public int dig() throws UnsupportedOperationException {
        setAside();
        return settled(addBurrow());
    }

    public int tread(int one, int other) throws UnsupportedOperationException {
        setAside();
        return settled(addPath(one, other));
    }

    public int grow(int one, int other) throws UnsupportedOperationException {
        setAside();
        return settled(dropPath(one, other));
    }

    public int trap(int burrow, boolean isTrap) throws UnsupportedOperationException {
        setAside();
        return settled(turnTrap(burrow, isTrap));
    }

    public int flock(int geese) throws UnsupportedOperationException {
        setAside();
        return settled(setGeese(geese));
    }

    // ------------------------------------------------------------- the game

    public int begin(int position) throws UnsupportedOperationException {
        setAside();
        return settled(startGame(position));
    }

    public int move(int from, int to) throws UnsupportedOperationException {
        setAside();
        return settled(makeMove(from, to));
    }

    public int play(int moves) throws UnsupportedOperationException {
        setAside();
        return settled(letPlay(moves));
    }

    public int back() throws UnsupportedOperationException {
        setAside();
        return settled(takeBack());
    }

    public int now() throws NoSuchElementException {
        if (!state.game.isOn) {
            throw new NoSuchElementException("there is no game");
        }
        return state.game.lastPosition();
    }

    // -------------------------------------------------------- the positions

    public int position(int fox, int first, int second, boolean isGeese) throws NoSuchElementException {
        if (!state.field.fits(fox, first, second)) {
            throw new NoSuchElementException("there is no such position");
        }
        return numberOf(fox, first, second, isGeese ? 1 : 0);
    }

    public int positionOf(int position, int what) throws IllegalArgumentException, NoSuchElementException {
        if (what < 0 || what > 6) {
            throw new IllegalArgumentException("what is not from 0 to 6");
        }
        needPosition(position);
        switch (what) {
            case 0:
                return foxOf(position);
            case 1:
                return firstOf(position);
            case 2:
                return secondOf(position);
            case 3:
                return turnOf(position);
            case 4:
                return Long.bitCount(state.field.movesOf(position));
            default:
                table.solve(state.field);
                return what == 5 ? table.outcomeOf(position) : table.inMoves(position);
        }
    }

    public int outcomeAgain(int position) throws NoSuchElementException {
        needPosition(position);
        secondWay.solve(state.field);
        return secondWay.outcomeOf(position);
    }

    public int moveOf(int position, int place, boolean isTo) throws NoSuchElementException {
        needPosition(position);
        long moves = state.field.movesOf(position);
        if (place < 0 || place >= Long.bitCount(moves)) {
            throw new NoSuchElementException("there is no such place");
        }
        for (int i = 0; i < place; i++) {
            moves = withoutFirst(moves);
        }
        int found = firstMove(moves);
        return isTo ? toOf(found) : fromOf(found);
    }

    public int best(int position) throws NoSuchElementException {
        needPosition(position);
        table.solve(state.field);
        int found = table.bestMove(state.field, position);
        if (found == NONE) {
            throw new NoSuchElementException("the position has no move");
        }
        return found;
    }

    public int after(int position, int from, int to) throws NoSuchElementException {
        needPosition(position);
        if (!state.field.allows(position, from, to)) {
            throw new NoSuchElementException("there is no such move");
        }
        return shifted(position, from, to);
    }

    public int ends(int position) throws NoSuchElementException {
        needPosition(position);
        table.solve(state.field);
        int left = table.inMoves(position);
        if (left < 0) {
            throw new NoSuchElementException("the position is drawn");
        }
        int end = position;
        for (int i = 0; i < left; i++) {
            int found = table.bestMove(state.field, end);
            if (found == NONE) {
                break;
            }
            end = shifted(end, fromOf(found), toOf(found));
        }
        return end;
    }

    public int count(int outcome, boolean isGeese) throws IllegalArgumentException {
        if (outcome < DRAWN || outcome > LOST) {
            throw new IllegalArgumentException("there is no such outcome");
        }
        table.solve(state.field);
        int turn = isGeese ? 1 : 0;
        int found = 0;
        for (int i = 0; i < table.size; i++) {
            int position = table.positionAt(i);
            if (turnOf(position) == turn && table.outcomeOf(position) == outcome) {
                found++;
            }
        }
        return found;
    }

    public int longest(boolean isGeese) throws NoSuchElementException {
        table.solve(state.field);
        int turn = isGeese ? 1 : 0;
        int found = NONE;
        int most = NONE;
        for (int i = 0; i < table.size; i++) {
            int position = table.positionAt(i);
            boolean isWon = turnOf(position) == turn && table.outcomeOf(position) == WON;
            if (isWon && table.inMoves(position) > most) {
                found = position;
                most = table.inMoves(position);
            }
        }
        if (found == NONE) {
            throw new NoSuchElementException("none is won");
        }
        return found;
    }

    public int wonIn(int moves) throws IllegalArgumentException {
        if (moves < 0) {
            throw new IllegalArgumentException("the number is below 0");
        }
        return positionsIn(moves);
    }

    public int wouldChange(int one, int other) throws IndexOutOfBoundsException, IllegalArgumentException {
        if (!state.field.has(one) || !state.field.has(other)) {
            throw new IndexOutOfBoundsException("there is no such burrow");
        }
        if (one == other) {
            throw new IllegalArgumentException("both burrows are one");
        }
        trialField.become(state.field);
        trialField.turnNear(one, other);
        trialField.version = newVersion();
        table.solve(state.field);
        trialTable.solve(trialField);
        int found = 0;
        for (int i = 0; i < table.size; i++) {
            int position = table.positionAt(i);
            if (table.outcomeOf(position) != trialTable.outcomeOf(position)) {
                found++;
            }
        }
        return found;
    }

    public int bestBurrow(int position) throws NoSuchElementException {
        needPosition(position);
        table.solve(state.field);
        int found = NONE;
        int fewest = 0;
        for (int fox = 0; fox < state.field.burrows; fox++) {
            int tried = position + FOX_SHARE * (fox - foxOf(position));
            if (!state.field.holds(tried) || !table.isFoxWinning(tried)) {
                continue;
            }
            if (found == NONE || table.inMoves(tried) < fewest) {
                found = fox;
                fewest = table.inMoves(tried);
            }
        }
        if (found == NONE) {
            throw new NoSuchElementException("no burrow wins for the fox");
        }
        return found;
    }

    // ------------------------------------------------- burrows and accounts

    public int burrowOf(int burrow, int what) throws IndexOutOfBoundsException, IllegalArgumentException {
        if (!state.field.has(burrow)) {
            throw new IndexOutOfBoundsException("there is no such burrow");
        }
        if (what < 0 || what > 3) {
            throw new IllegalArgumentException("what is not from 0 to 3");
        }
        switch (what) {
            case 0:
                return Integer.bitCount(at(state.field.near, burrow));
            case 1:
                return Integer.bitCount(at(state.field.near, burrow) & above(burrow));
            case 2:
                return state.field.isTrap(burrow) ? 1 : 0;
            default:
                return winsOfFoxOn(burrow);
        }
    }

    public int pathOf(int path, boolean isOther) throws IndexOutOfBoundsException {
        if (path < 0 || path >= state.field.paths) {
            throw new IndexOutOfBoundsException("there is no such path");
        }
        return at(isOther ? state.field.others : state.field.ones, path);
    }

    public double meanMoves() throws ArithmeticException {
        table.solve(state.field);
        int sum = 0;
        int found = 0;
        for (int i = 0; i < table.size; i++) {
            int moves = table.inMoves(table.positionAt(i));
            if (moves >= 0) {
                sum += moves;
                found++;
            }
        }
        if (found == 0) {
            throw new ArithmeticException("no position is won or lost");
        }
        return (double) sum / (double) found;
    }

    public float drawn() throws ArithmeticException {
        table.solve(state.field);
        if (table.size == 0) {
            throw new ArithmeticException("there are no positions");
        }
        return (float) positionsIn(NONE) / (float) table.size;
    }

    public int account(int what) throws IllegalArgumentException {
        if (what < 0 || what > 10) {
            throw new IllegalArgumentException("what is not from 0 to 10");
        }
        switch (what) {
            case 0:
                return state.field.burrows;
            case 1:
                return state.field.paths;
            case 2:
                return Integer.bitCount(state.field.traps);
            case 3:
                return state.field.geese;
            case 7:
                return state.game.isOn ? state.game.moves : NONE;
            case 8:
                return state.begun;
            case 9:
                return changes.kept;
            case 10:
                return buffer.length;
            default:
                return accountOfPositions(what);
        }
    }

    // ------------------------------------------------- texts, reason, line

    public int append(char character) throws IllegalStateException {
        if (buffer.length >= MOST_CHARACTERS) {
            throw new IllegalStateException("the buffer is full");
        }
        buffer.add(character);
        return buffer.length;
    }

    public int commands() throws IllegalArgumentException, UnsupportedOperationException {
        fault = reader.read(buffer);
        buffer.length = 0;
        if (fault != NONE) {
            throw new IllegalArgumentException("the text has a fault");
        }
        setAside();
        int done = reader.count;
        for (int i = 0; i < reader.count && done != REFUSED; i++) {
            command = i;
            if (carriedOut(i) == REFUSED) {
                done = REFUSED;
            }
        }
        command = 0;
        return settled(done);
    }

    public int faultPosition() {
        return fault;
    }

    public int reason(int what) throws IllegalArgumentException, NoSuchElementException {
        if (what < 0 || what > 2) {
            throw new IllegalArgumentException("what is not from 0 to 2");
        }
        if (!kept.isThere) {
            throw new NoSuchElementException("nothing was refused");
        }
        if (what == 0) {
            return kept.why;
        }
        return what == 1 ? kept.detail : kept.command;
    }

    public int line() {
        written.length = 0;
        Game game = state.game;
        int moves = game.isOn ? game.moves : 0;
        for (int i = 0; i < moves; i++) {
            if (i > 0) {
                written.add(' ');
            }
            int made = at(game.made, i);
            boolean isGoose = turnOf(at(game.positions, i)) == 1;
            written.add((char) ('0' + fromOf(made)));
            written.add(isGoose ? 'g' : 'f');
            written.add((char) ('0' + toOf(made)));
        }
        return written.length;
    }

    public char character(int index) throws IndexOutOfBoundsException {
        if (index < 0 || index >= written.length) {
            throw new IndexOutOfBoundsException("there is no such index");
        }
        return written.sign(index);
    }

    // -------------------------------------------------- undo and a snapshot

    public int undo() throws IllegalStateException {
        if (changes.kept == 0) {
            throw new IllegalStateException("there is nothing to undo");
        }
        changes.takeInto(state);
        return changes.kept;
    }

    public int save() {
        saved.become(state);
        hasSaved = true;
        return state.field.burrows;
    }

    public int restore() throws IllegalStateException {
        if (!hasSaved) {
            throw new IllegalStateException("there is no snapshot");
        }
        state.become(saved);
        changes.kept = 0;
        return state.field.burrows;
    }

    // --------------------------------- changes, REFUSED with a reason if not

    private int addBurrow() {
        Field field = state.field;
        if (field.burrows >= MOST_BURROWS) {
            return refused(TOO_MANY, MOST_BURROWS);
        }
        field.burrows++;
        markChanged();
        return field.burrows - 1;
    }

    private int addPath(int one, int other) {
        Field field = state.field;
        if (isRefusedFor(one) || isRefusedFor(other)) {
            return REFUSED;
        }
        if (one == other) {
            return refused(BOTH_ARE_ONE, one);
        }
        if (field.pathBetween(one, other) != NONE) {
            return refused(ALREADY_SO, 0);
        }
        if (field.paths >= MOST_PATHS) {
            return refused(TOO_MANY, MOST_PATHS);
        }
        field.join(one, other);
        markChanged();
        return field.paths - 1;
    }

    private int dropPath(int one, int other) {
        Field field = state.field;
        if (isRefusedFor(one) || isRefusedFor(other)) {
            return REFUSED;
        }
        int path = field.pathBetween(one, other);
        if (path == NONE) {
            return refused(NO_PATH, one);
        }
        field.part(path);
        markChanged();
        return field.paths;
    }

    private int turnTrap(int burrow, boolean isTrap) {
        Field field = state.field;
        if (isRefusedFor(burrow)) {
            return REFUSED;
        }
        if (field.isTrap(burrow) == isTrap) {
            return refused(ALREADY_SO, 0);
        }
        field.traps ^= 1 << burrow;
        markChanged();
        return Integer.bitCount(field.traps);
    }

    private int setGeese(int geese) {
        if (geese < 1 || geese > MOST_GEESE) {
            return refused(OUT_OF_RANGE, 0);
        }
        int earlier = state.field.geese;
        if (geese == earlier) {
            return refused(ALREADY_SO, 0);
        }
        state.field.geese = geese;
        markChanged();
        return earlier;
    }

    private int startGame(int position) {
        if (!state.field.holds(position)) {
            return refused(NO_POSITION, position);
        }
        state.game.start(position);
        state.begun++;
        return Long.bitCount(state.field.movesOf(position));
    }

    private int makeMove(int from, int to) {
        Game game = state.game;
        if (!game.isOn) {
            return refused(NO_GAME, 0);
        }
        int position = game.lastPosition();
        int choices = Long.bitCount(state.field.movesOf(position));
        if (choices == 0) {
            return refused(GAME_IS_OVER, game.moves);
        }
        if (!state.field.allows(position, from, to)) {
            return refused(NO_SUCH_MOVE, choices);
        }
        if (game.moves >= MOST_MOVES) {
            return refused(TOO_MANY, MOST_MOVES);
        }
        int next = shifted(position, from, to);
        game.add(moveNumber(from, to), next);
        return Long.bitCount(state.field.movesOf(next));
    }

    private int letPlay(int moves) {
        Game game = state.game;
        if (moves < 1 || moves > MOST_MOVES) {
            return refused(OUT_OF_RANGE, 0);
        }
        if (!game.isOn) {
            return refused(NO_GAME, 0);
        }
        if (state.field.movesOf(game.lastPosition()) == 0) {
            return refused(GAME_IS_OVER, game.moves);
        }
        if (game.moves >= MOST_MOVES) {
            return refused(TOO_MANY, MOST_MOVES);
        }
        table.solve(state.field);
        int done = 0;
        while (done < moves && game.moves < MOST_MOVES) {
            int position = game.lastPosition();
            int found = table.bestMove(state.field, position);
            if (found == NONE) {
                break;
            }
            game.add(found, shifted(position, fromOf(found), toOf(found)));
            done++;
        }
        return done;
    }

    private int takeBack() {
        Game game = state.game;
        if (!game.isOn) {
            return refused(NO_GAME, 0);
        }
        if (game.moves == 0) {
            return refused(NOTHING_MADE, 0);
        }
        game.moves--;
        return game.moves;
    }

    private int carriedOut(int index) {
        int one = at(reader.ones, index);
        int other = at(reader.others, index);
        switch (at(reader.kinds, index)) {
            case 'd':
                return addBurrow();
            case 'p':
                return addPath(one, other);
            case 'x':
                return dropPath(one, other);
            case 't':
                return turnTrap(one, true);
            case 'f':
                return turnTrap(one, false);
            case 'g':
                return setGeese(one);
            case 'b':
                return startGame(one);
            case 'm':
                return makeMove(one, other);
            case 'a':
                return letPlay(one);
            default:
                return takeBack();
        }
    }

    private boolean isRefusedFor(int burrow) {
        if (state.field.has(burrow)) {
            return false;
        }
        refused(NO_BURROW, burrow);
        return true;
    }

    private int refused(int why, int detail) {
        kept.isThere = true;
        kept.why = why;
        kept.detail = detail;
        kept.command = command;
        return REFUSED;
    }

    private void setAside() {
        before.become(state);
    }

    /** Ends a call that changes: what was set aside comes back, or can be undone to. */
    private int settled(int answer) throws UnsupportedOperationException {
        if (answer == REFUSED) {
            state.become(before);
            throw new UnsupportedOperationException("it is refused");
        }
        changes.keep(before);
        return answer;
    }

    private void markChanged() {
        state.game.isOn = false;
        state.field.version = newVersion();
    }

    /** Numbers are never used twice, so that a table knows the field that it tells of. */
    private int newVersion() {
        versions++;
        return versions;
    }

    // -------------------------------------------------------------- queries

    private void needPosition(int position) throws NoSuchElementException {
        if (!state.field.holds(position)) {
            throw new NoSuchElementException("there is no such position");
        }
    }

    private int positionsIn(int moves) {
        table.solve(state.field);
        int found = 0;
        for (int i = 0; i < table.size; i++) {
            if (table.inMoves(table.positionAt(i)) == moves) {
                found++;
            }
        }
        return found;
    }

    private int winsOfFoxOn(int burrow) {
        table.solve(state.field);
        int found = 0;
        for (int i = 0; i < table.size; i++) {
            int position = table.positionAt(i);
            if (foxOf(position) == burrow && table.isFoxWinning(position)) {
                found++;
            }
        }
        return found;
    }

    private int accountOfPositions(int what) {
        if (what == 5) {
            return positionsIn(0);
        }
        table.solve(state.field);
        if (what == 4) {
            return table.size;
        }
        int most = NONE;
        for (int i = 0; i < table.size; i++) {
            most = Math.max(most, table.inMoves(table.positionAt(i)));
        }
        return most;
    }

    // ----------------------------------------------- rows, numbers and sets

    private static int at(int[] row, int index) {
        return index < 0 || index >= row.length ? 0 : row[index];
    }

    private static void put(int[] row, int index, int value) {
        if (index >= 0 && index < row.length) {
            row[index] = value;
        }
    }

    private static void copy(int[] from, int[] to) {
        System.arraycopy(from, 0, to, 0, Math.min(from.length, to.length));
    }

    private static int numberOf(int fox, int first, int second, int turn) {
        return FOX_SHARE * fox + FIRST_SHARE * first + SECOND_SHARE * (second + 1) + turn;
    }

    private static int foxOf(int position) {
        return position / FOX_SHARE;
    }

    private static int firstOf(int position) {
        return position % FOX_SHARE / FIRST_SHARE;
    }

    private static int secondOf(int position) {
        return position % FIRST_SHARE / SECOND_SHARE - 1;
    }

    private static int turnOf(int position) {
        return position % SECOND_SHARE;
    }

    /** The position with a piece on another burrow, and the turn of the other one. */
    private static int shifted(int position, int from, int to) {
        int fox = foxOf(position);
        int first = firstOf(position);
        int second = secondOf(position);
        int turn = 1 - turnOf(position);
        if (from == fox) {
            return numberOf(to, first, second, turn);
        }
        int other = from == first ? second : first;
        if (other == NONE) {
            return numberOf(fox, to, NONE, turn);
        }
        return numberOf(fox, Math.min(to, other), Math.max(to, other), turn);
    }

    /** Moves in their order have growing numbers, so a set of them is the bits of a long. */
    private static int moveNumber(int from, int to) {
        return MOST_BURROWS * from + to;
    }

    private static int fromOf(int move) {
        return move / MOST_BURROWS;
    }

    private static int toOf(int move) {
        return move % MOST_BURROWS;
    }

    private static int firstMove(long moves) {
        return Long.bitCount((moves & -moves) - 1);
    }

    private static long withoutFirst(long moves) {
        return moves & (moves - 1);
    }

    private static int above(int burrow) {
        return -2 << burrow;
    }

    private static int below(int burrow) {
        return (1 << burrow) - 1;
    }

    private static int bitOf(int burrow) {
        return burrow < 0 ? 0 : 1 << burrow;
    }

    // -------------------------------------------------------------- classes

    /** Burrows, paths, traps and geese, and so the positions and their moves; sets of burrows are bits. */
    private static final class Field {
        int burrows;
        int paths;
        int traps;
        int geese = 1;
        int version;
        final int[] ones = new int[MOST_PATHS];
        final int[] others = new int[MOST_PATHS];
        final int[] near = new int[MOST_BURROWS];

        void become(Field other) {
            burrows = other.burrows;
            paths = other.paths;
            traps = other.traps;
            geese = other.geese;
            version = other.version;
            copy(other.ones, ones);
            copy(other.others, others);
            copy(other.near, near);
        }

        boolean has(int burrow) {
            return burrow >= 0 && burrow < burrows;
        }

        boolean isTrap(int burrow) {
            return (traps & bitOf(burrow)) != 0;
        }

        int pathBetween(int one, int other) {
            for (int i = 0; i < paths; i++) {
                int from = at(ones, i);
                int to = at(others, i);
                if (from == one && to == other || from == other && to == one) {
                    return i;
                }
            }
            return NONE;
        }

        void join(int one, int other) {
            put(ones, paths, one);
            put(others, paths, other);
            paths++;
            turnNear(one, other);
        }

        void part(int path) {
            turnNear(at(ones, path), at(others, path));
            paths--;
            for (int i = path; i < paths; i++) {
                put(ones, i, at(ones, i + 1));
                put(others, i, at(others, i + 1));
            }
        }

        /** Makes two burrows neighbours if they are none, and none if they are. */
        void turnNear(int one, int other) {
            put(near, one, at(near, one) ^ bitOf(other));
            put(near, other, at(near, other) ^ bitOf(one));
        }

        boolean fits(int fox, int first, int second) {
            if (!has(fox) || !has(first) || fox == first) {
                return false;
            }
            if (geese == 1) {
                return second == NONE;
            }
            return has(second) && second > first && second != fox;
        }

        boolean holds(int position) {
            if (position < 0 || position >= NUMBERS) {
                return false;
            }
            return fits(foxOf(position), firstOf(position), secondOf(position));
        }

        /** Lists all positions by their numbers, and returns how many there are. */
        int listPositions(int[] list) {
            int size = 0;
            for (int fox = 0; fox < burrows; fox++) {
                for (int first = 0; first < burrows; first++) {
                    for (int second = NONE; second < burrows; second++) {
                        if (fits(fox, first, second)) {
                            put(list, size, numberOf(fox, first, second, 0));
                            put(list, size + 1, numberOf(fox, first, second, 1));
                            size += 2;
                        }
                    }
                }
            }
            return size;
        }

        long movesOf(int position) {
            int first = firstOf(position);
            int second = secondOf(position);
            int open = ~(taken(position) | traps);
            if (turnOf(position) == 0) {
                return moves(foxOf(position), open);
            }
            return moves(first, open & above(first)) | moves(second, open & above(second));
        }

        /** The moves that can have led to a position, each turned round. */
        long waysBack(int position) {
            int fox = foxOf(position);
            int first = firstOf(position);
            int second = secondOf(position);
            int open = ~taken(position);
            if (turnOf(position) == 1) {
                return isTrap(fox) ? 0 : moves(fox, open);
            }
            long ways = isTrap(first) ? 0 : moves(first, open & below(first));
            if (second == NONE || isTrap(second)) {
                return ways;
            }
            return ways | moves(second, open & below(second));
        }

        boolean allows(int position, int from, int to) {
            if (!has(from) || !has(to)) {
                return false;
            }
            return (movesOf(position) >> moveNumber(from, to) & 1) != 0;
        }

        private int taken(int position) {
            return bitOf(foxOf(position)) | bitOf(firstOf(position)) | bitOf(secondOf(position));
        }

        private long moves(int from, int allowed) {
            if (from < 0 || from >= near.length) {
                return 0;
            }
            return (long) (near[from] & allowed) << MOST_BURROWS * from;
        }
    }

    /** A game: the positions from its first one, and the moves between them. */
    private static final class Game {
        boolean isOn;
        int moves;
        final int[] positions = new int[MOST_MOVES + 1];
        final int[] made = new int[MOST_MOVES];

        void become(Game other) {
            isOn = other.isOn;
            moves = other.moves;
            copy(other.positions, positions);
            copy(other.made, made);
        }

        void start(int position) {
            isOn = true;
            moves = 0;
            put(positions, 0, position);
        }

        void add(int move, int position) {
            put(made, moves, move);
            moves++;
            put(positions, moves, position);
        }

        int lastPosition() {
            return at(positions, moves);
        }
    }

    /** All that can be undone. */
    private static final class State {
        final Field field = new Field();
        final Game game = new Game();
        int begun;

        void become(State other) {
            field.become(other.field);
            game.become(other.game);
            begun = other.begun;
        }
    }

    /** What there was before the latest changes, in a ring. */
    private static final class Changes {
        final State[] earlier = new State[MOST_UNDONE];
        int kept;
        int next;

        Changes() {
            for (int i = 0; i < earlier.length; i++) {
                earlier[i] = new State();
            }
        }

        void keep(State before) {
            State place = placeAt(next);
            if (place == null) {
                return;
            }
            place.become(before);
            next = (next + 1) % MOST_UNDONE;
            kept = Math.min(kept + 1, MOST_UNDONE);
        }

        void takeInto(State state) {
            int latest = (next + MOST_UNDONE - 1) % MOST_UNDONE;
            State place = placeAt(latest);
            if (kept == 0 || place == null) {
                return;
            }
            state.become(place);
            next = latest;
            kept--;
        }

        private State placeAt(int index) {
            return index < 0 || index >= earlier.length ? null : earlier[index];
        }
    }

    /**
     * In how many moves each position is won or lost, by going back from those in which the game is over. A lost one is
     * so in an even number and a won one in an odd number, as the turns change; so the number tells the outcome too.
     */
    private static final class Table {
        int size;
        private int solved = NONE;
        private final int[] all = new int[MOST_POSITIONS];
        private final int[] told = new int[MOST_POSITIONS];
        private final int[] numbers = new int[NUMBERS];
        private final int[] open = new int[NUMBERS];

        void solve(Field field) {
            if (solved == field.version) {
                return;
            }
            solved = field.version;
            size = field.listPositions(all);
            int end = 0;
            for (int i = 0; i < size; i++) {
                int position = at(all, i);
                int moves = Long.bitCount(field.movesOf(position));
                put(open, position, moves);
                put(numbers, position, moves == 0 ? 0 : NONE);
                if (moves == 0) {
                    put(told, end, position);
                    end++;
                }
            }
            for (int i = 0; i < end && i < MOST_POSITIONS; i++) {
                int position = at(told, i);
                end = tellBefore(position, field.waysBack(position), end);
            }
        }

        /**
         * Positions with fewer moves are told first; so the first lost one behind a position makes it won in the least
         * number, and the last won one makes it lost in the greatest. Returns how many are told then.
         */
        private int tellBefore(int position, long ways, int alreadyTold) {
            int number = at(numbers, position);
            int end = alreadyTold;
            long left = ways;
            int count = Long.bitCount(ways);
            for (int i = 0; i < count; i++) {
                int way = firstMove(left);
                left = withoutFirst(left);
                int before = shifted(position, fromOf(way), toOf(way));
                if (at(numbers, before) == NONE && isDecided(before, number)) {
                    put(numbers, before, number + 1);
                    put(told, end, before);
                    end++;
                }
            }
            return end;
        }

        /** A lost position behind decides at once, a won one only when it is the last of all moves. */
        private boolean isDecided(int before, int number) {
            if (number % 2 == 0) {
                return true;
            }
            int rest = at(open, before) - 1;
            put(open, before, rest);
            return rest == 0;
        }

        int positionAt(int index) {
            return at(all, index);
        }

        int inMoves(int position) {
            return at(numbers, position);
        }

        int outcomeOf(int position) {
            int number = at(numbers, position);
            if (number < 0) {
                return DRAWN;
            }
            return number % 2 == 0 ? LOST : WON;
        }

        boolean isFoxWinning(int position) {
            return outcomeOf(position) == (turnOf(position) == 0 ? WON : LOST);
        }

        /** By what won, lost and drawn mean, the best move leads to the number one less, or from drawn to drawn. */
        int bestMove(Field field, int position) {
            int number = at(numbers, position);
            int sought = number == NONE ? NONE : number - 1;
            long moves = field.movesOf(position);
            int count = Long.bitCount(moves);
            for (int i = 0; i < count; i++) {
                int move = firstMove(moves);
                moves = withoutFirst(moves);
                if (at(numbers, shifted(position, fromOf(move), toOf(move))) == sought) {
                    return move;
                }
            }
            return NONE;
        }
    }

    /** The outcomes of all positions, by looking at all of them until nothing new is seen. */
    private static final class SecondWay {
        private int solved = NONE;
        private final int[] all = new int[MOST_POSITIONS];
        private final int[] outcomes = new int[NUMBERS];

        void solve(Field field) {
            if (solved == field.version) {
                return;
            }
            solved = field.version;
            int size = field.listPositions(all);
            for (int i = 0; i < size; i++) {
                put(outcomes, at(all, i), DRAWN);
            }
            int news = size;
            for (int pass = 0; pass <= size && news > 0; pass++) {
                news = 0;
                for (int i = 0; i < size; i++) {
                    int position = at(all, i);
                    int outcome = at(outcomes, position) == DRAWN ? seen(field, position) : DRAWN;
                    if (outcome != DRAWN) {
                        put(outcomes, position, outcome);
                        news++;
                    }
                }
            }
        }

        private int seen(Field field, int position) {
            long moves = field.movesOf(position);
            int count = Long.bitCount(moves);
            int wonBehind = 0;
            for (int i = 0; i < count; i++) {
                int move = firstMove(moves);
                moves = withoutFirst(moves);
                int behind = at(outcomes, shifted(position, fromOf(move), toOf(move)));
                if (behind == LOST) {
                    return WON;
                }
                if (behind == WON) {
                    wonBehind++;
                }
            }
            return wonBehind == count ? LOST : DRAWN;
        }

        int outcomeOf(int position) {
            return at(outcomes, position);
        }
    }

    /** Characters in a row of its own, for the buffer and for the line. */
    private static final class Text {
        int length;
        private final char[] signs = new char[MOST_SIGNS];

        void add(char sign) {
            if (length >= 0 && length < signs.length) {
                signs[length] = sign;
                length++;
            }
        }

        char sign(int index) {
            return index < 0 || index >= length || index >= signs.length ? (char) 0 : signs[index];
        }
    }

    /** Reads a text of commands, and keeps what they tell. */
    private static final class Reader {
        int count;
        final int[] kinds = new int[MOST_COMMANDS];
        final int[] ones = new int[MOST_COMMANDS];
        final int[] others = new int[MOST_COMMANDS];
        private int place;

        /** Returns the fault position of the text, or NONE. */
        int read(Text text) {
            place = 0;
            count = 0;
            for (int i = 0; i <= MOST_COMMANDS; i++) {
                if (!isCommand(text)) {
                    return place;
                }
                if (place >= text.length) {
                    return NONE;
                }
                if (text.sign(place) != ';') {
                    return place;
                }
                place++;
            }
            return place;
        }

        private boolean isCommand(Text text) {
            char kind = text.sign(place);
            int digits = digitsOf(kind);
            if (digits == NONE) {
                return false;
            }
            place++;
            int one = digits == 0 ? 0 : numberIn(text, digits);
            if (one == NONE) {
                return false;
            }
            int other = 0;
            char mark = markOf(kind);
            if (mark != ' ') {
                if (text.sign(place) != mark) {
                    return false;
                }
                place++;
                other = numberIn(text, 1);
            }
            if (other == NONE) {
                return false;
            }
            put(kinds, count, kind);
            put(ones, count, one);
            put(others, count, other);
            count++;
            return true;
        }

        /** How many digits at most the first number behind a letter has; NONE if no command has that letter. */
        private static int digitsOf(char kind) {
            switch (kind) {
                case 'd':
                case 'u':
                    return 0;
                case 'p':
                case 'x':
                case 't':
                case 'f':
                case 'g':
                case 'm':
                    return 1;
                case 'a':
                    return 2;
                case 'b':
                    return 4;
                default:
                    return NONE;
            }
        }

        /** The sign between two numbers; a blank if there is one number at most. */
        private static char markOf(char kind) {
            switch (kind) {
                case 'p':
                case 'x':
                    return '-';
                case 'm':
                    return '>';
                default:
                    return ' ';
            }
        }

        private int numberIn(Text text, int most) {
            int value = NONE;
            for (int i = 0; i < most; i++) {
                char sign = text.sign(place);
                if (sign < '0' || sign > '9') {
                    break;
                }
                value = 10 * Math.max(value, 0) + sign - '0';
                place++;
            }
            return value;
        }
    }

    /** Why something was refused the last time. */
    private static final class Reason {
        boolean isThere;
        int why;
        int detail;
        int command;
    }
}
