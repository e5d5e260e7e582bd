import java.util.ArrayDeque;
import java.util.ArrayList;
import java.util.Deque;
import java.util.HashMap;
import java.util.List;
import java.util.Map;
import java.util.NoSuchElementException;
import java.util.TreeSet;
import java.util.regex.Matcher;
import java.util.regex.Pattern;

/**
 * The document once more, in another way: positions are asked by recursion and remembered, as the geese only go forward
 * and so no line of play comes back; texts are read by a regular expression; changes are whole copies.
 */
public final class Model {
    private static final String COMMAND = "(?:[du]|[px][0-9]-[0-9]|m[0-9]>[0-9]|[tfg][0-9]|b[0-9]{1,4}|a[0-9]{1,2})";
    private static final Pattern TEXT = Pattern.compile(COMMAND + "(?:;" + COMMAND + ")*");

    /** Where the pieces stand, and whose turn it is. */
    private record Place(int fox, int first, int second, boolean isGeese) {
        int number() {
            return 162 * fox + 18 * first + 2 * (second + 1) + (isGeese ? 1 : 0);
        }
    }

    /** A move and the place behind it. */
    private record Step(int from, int to, Place behind) {
    }

    /** What can be undone. */
    private static final class World {
        int burrows;
        List<List<Integer>> paths = new ArrayList<>();
        TreeSet<Integer> traps = new TreeSet<>();
        int geese = 1;
        List<Place> places;
        List<Step> steps;
        int begun;

        World copied() {
            World copy = new World();
            copy.burrows = burrows;
            copy.paths = new ArrayList<>(paths);
            copy.traps = new TreeSet<>(traps);
            copy.geese = geese;
            copy.places = places == null ? null : new ArrayList<>(places);
            copy.steps = steps == null ? null : new ArrayList<>(steps);
            copy.begun = begun;
            return copy;
        }

        boolean has(int burrow) {
            return 0 <= burrow && burrow < burrows;
        }

        int path(int one, int other) {
            int found = paths.indexOf(List.of(one, other));
            return found >= 0 ? found : paths.indexOf(List.of(other, one));
        }

        Place place(int number) {
            return places().get(number);
        }

        Map<Integer, Place> places() {
            Map<Integer, Place> found = new java.util.TreeMap<>();
            for (int fox = 0; fox < burrows; fox++) {
                for (int first = 0; first < burrows; first++) {
                    for (int second = geese == 1 ? -1 : first + 1; second < (geese == 1 ? 0 : burrows); second++) {
                        if (fox != first && fox != second) {
                            for (boolean isGeese : new boolean[] {false, true}) {
                                Place place = new Place(fox, first, second, isGeese);
                                found.put(place.number(), place);
                            }
                        }
                    }
                }
            }
            return found;
        }

        List<Step> steps(Place place) {
            List<Step> found = new ArrayList<>();
            for (int from = 0; from < burrows; from++) {
                boolean isFox = !place.isGeese && from == place.fox;
                boolean isGoose = place.isGeese && (from == place.first || from == place.second);
                for (int to = 0; to < burrows; to++) {
                    boolean isShut = to == place.fox || to == place.first || to == place.second || traps.contains(to);
                    if (isShut || path(from, to) < 0 || !(isFox || isGoose && to > from)) {
                        continue;
                    }
                    found.add(new Step(from, to, isFox ? new Place(to, place.first, place.second, true)
                        : geeseOn(place.fox, to, from == place.first ? place.second : place.first)));
                }
            }
            return found;
        }

        private static Place geeseOn(int fox, int moved, int other) {
            if (other < 0) {
                return new Place(fox, moved, -1, false);
            }
            return new Place(fox, Math.min(moved, other), Math.max(moved, other), false);
        }

        /** Won in n as n, lost in n as -1 - n. */
        int value(Place place, Map<Place, Integer> known) {
            Integer already = known.get(place);
            if (already != null) {
                return already;
            }
            int leastLost = Integer.MAX_VALUE;
            int greatestWon = -1;
            for (Step step : steps(place)) {
                int behind = value(step.behind, known);
                if (behind < 0) {
                    leastLost = Math.min(leastLost, -1 - behind);
                } else {
                    greatestWon = Math.max(greatestWon, behind);
                }
            }
            int value = leastLost < Integer.MAX_VALUE ? leastLost + 1 : -1 - (greatestWon + 1);
            known.put(place, value);
            return value;
        }

        /** The first of the best ranked: a lost one behind, the sooner the better; or else a won one, the later the better. */
        Step best(Place place, Map<Place, Integer> known) {
            Step best = null;
            for (Step step : steps(place)) {
                if (best == null || rank(value(step.behind, known)) > rank(value(best.behind, known))) {
                    best = step;
                }
            }
            return best;
        }

        private static int rank(int behind) {
            return behind < 0 ? 1000 + behind : behind;
        }
    }

    /** Thrown inside for a refused change. */
    private static final class Refusal extends RuntimeException {
        private static final long serialVersionUID = 1;
        final int why;
        final int detail;

        Refusal(int why, int detail) {
            this.why = why;
            this.detail = detail;
        }
    }

    private World world = new World();
    private World snapshot;
    private final Deque<World> earlier = new ArrayDeque<>();
    private final StringBuilder text = new StringBuilder();
    private String written = "";
    private int fault = -1;
    private int[] reason;

    private interface Change {
        int make(World world);
    }

    private int change(Change change) {
        return change(change, new int[1]);
    }

    private int change(Change change, int[] command) {
        World before = world.copied();
        try {
            int answer = change.make(world);
            earlier.addFirst(before);
            while (earlier.size() > 8) {
                earlier.removeLast();
            }
            return answer;
        } catch (Refusal refusal) {
            world = before;
            reason = new int[] {refusal.why, refusal.detail, command[0]};
            throw new UnsupportedOperationException();
        }
    }

    private static void unless(boolean isFine, int why, int detail) {
        if (!isFine) {
            throw new Refusal(why, detail);
        }
    }

    private static void endGame(World world) {
        world.places = null;
        world.steps = null;
    }

    private static int dug(World world) {
        unless(world.burrows < 8, 2, 8);
        endGame(world);
        return world.burrows++;
    }

    private static int trodden(World world, int one, int other) {
        unless(world.has(one), 3, one);
        unless(world.has(other), 3, other);
        unless(one != other, 4, one);
        unless(world.path(one, other) < 0, 5, 0);
        unless(world.paths.size() < 16, 2, 16);
        endGame(world);
        world.paths.add(List.of(one, other));
        return world.paths.size() - 1;
    }

    private static int grown(World world, int one, int other) {
        unless(world.has(one), 3, one);
        unless(world.has(other), 3, other);
        unless(world.path(one, other) >= 0, 6, one);
        endGame(world);
        world.paths.remove(world.path(one, other));
        return world.paths.size();
    }

    private static int trapped(World world, int burrow, boolean isTrap) {
        unless(world.has(burrow), 3, burrow);
        unless(isTrap ? world.traps.add(burrow) : world.traps.remove(burrow), 5, 0);
        endGame(world);
        return world.traps.size();
    }

    private static int flocked(World world, int geese) {
        unless(geese == 1 || geese == 2, 1, 0);
        unless(geese != world.geese, 5, 0);
        endGame(world);
        world.geese = geese;
        return 3 - geese;
    }

    private static int begun(World world, int position) {
        Place place = world.place(position);
        unless(place != null, 7, position);
        world.places = new ArrayList<>(List.of(place));
        world.steps = new ArrayList<>();
        world.begun++;
        return world.steps(place).size();
    }

    private static Place last(World world) {
        return world.places.get(world.places.size() - 1);
    }

    private static int moved(World world, int from, int to) {
        unless(world.places != null, 8, 0);
        List<Step> steps = world.steps(last(world));
        unless(!steps.isEmpty(), 9, world.steps.size());
        for (Step step : steps) {
            if (step.from == from && step.to == to) {
                unless(world.steps.size() < 40, 2, 40);
                world.steps.add(step);
                world.places.add(step.behind);
                return world.steps(step.behind).size();
            }
        }
        throw new Refusal(10, steps.size());
    }

    private static int played(World world, int moves) {
        unless(1 <= moves && moves <= 40, 1, 0);
        unless(world.places != null, 8, 0);
        unless(!world.steps(last(world)).isEmpty(), 9, world.steps.size());
        unless(world.steps.size() < 40, 2, 40);
        Map<Place, Integer> known = new HashMap<>();
        int made = 0;
        for (Step best = world.best(last(world), known); best != null && made < moves && world.steps.size() < 40;
                best = world.best(last(world), known)) {
            world.steps.add(best);
            world.places.add(best.behind);
            made++;
        }
        return made;
    }

    private static int takenBack(World world) {
        unless(world.places != null, 8, 0);
        unless(!world.steps.isEmpty(), 11, 0);
        world.places.remove(world.places.size() - 1);
        world.steps.remove(world.steps.size() - 1);
        return world.steps.size();
    }

    public int dig() {
        return change(Model::dug);
    }

    public int tread(int one, int other) {
        return change(world -> trodden(world, one, other));
    }

    public int grow(int one, int other) {
        return change(world -> grown(world, one, other));
    }

    public int trap(int burrow, boolean isTrap) {
        return change(world -> trapped(world, burrow, isTrap));
    }

    public int flock(int geese) {
        return change(world -> flocked(world, geese));
    }

    public int begin(int position) {
        return change(world -> begun(world, position));
    }

    public int move(int from, int to) {
        return change(world -> moved(world, from, to));
    }

    public int play(int moves) {
        return change(world -> played(world, moves));
    }

    public int back() {
        return change(Model::takenBack);
    }

    private static NoSuchElementException none() {
        return new NoSuchElementException();
    }

    private Place need(int position) {
        Place place = world.place(position);
        if (place == null) {
            throw none();
        }
        return place;
    }

    private int value(Place place) {
        return world.value(place, new HashMap<>());
    }

    private static int outcome(int value) {
        return value < 0 ? 2 : 1;
    }

    private static int moves(int value) {
        return value < 0 ? -1 - value : value;
    }

    private boolean isFoxWinning(Place place) {
        return value(place) < 0 == place.isGeese;
    }

    public int position(int fox, int first, int second, boolean isGeese) {
        Place place = new Place(fox, first, second, isGeese);
        if (!world.places().containsValue(place)) {
            throw none();
        }
        return place.number();
    }

    public int positionOf(int position, int what) {
        range(what, 6);
        Place place = need(position);
        int[] numbers = {place.fox, place.first, place.second, place.isGeese ? 1 : 0, world.steps(place).size(),
            outcome(value(place)), moves(value(place))};
        return numbers[what];
    }

    public int outcomeAgain(int position) {
        return outcome(value(need(position)));
    }

    public int moveOf(int position, int place, boolean isTo) {
        List<Step> steps = world.steps(need(position));
        if (place < 0 || place >= steps.size()) {
            throw none();
        }
        return isTo ? steps.get(place).to : steps.get(place).from;
    }

    public int best(int position) {
        Step best = world.best(need(position), new HashMap<>());
        if (best == null) {
            throw none();
        }
        return 8 * best.from + best.to;
    }

    public int after(int position, int from, int to) {
        for (Step step : world.steps(need(position))) {
            if (step.from == from && step.to == to) {
                return step.behind.number();
            }
        }
        throw none();
    }

    public int ends(int position) {
        Place place = need(position);
        Map<Place, Integer> known = new HashMap<>();
        while (world.best(place, known) != null) {
            place = world.best(place, known).behind;
        }
        return place.number();
    }

    public int count(int outcome, boolean isGeese) {
        range(outcome, 2);
        return (int) world.places().values().stream()
            .filter(place -> place.isGeese == isGeese && outcome(value(place)) == outcome).count();
    }

    public int longest(boolean isGeese) {
        Place longest = null;
        for (Place place : world.places().values()) {
            boolean isWon = place.isGeese == isGeese && value(place) > 0;
            if (isWon && (longest == null || value(place) > value(longest))) {
                longest = place;
            }
        }
        if (longest == null) {
            throw none();
        }
        return longest.number();
    }

    public int wonIn(int moves) {
        if (moves < 0) {
            throw new IllegalArgumentException();
        }
        return (int) world.places().values().stream().filter(place -> moves(value(place)) == moves).count();
    }

    public int wouldChange(int one, int other) {
        if (!world.has(one) || !world.has(other)) {
            throw new IndexOutOfBoundsException();
        }
        if (one == other) {
            throw new IllegalArgumentException();
        }
        World changed = world.copied();
        if (changed.path(one, other) >= 0) {
            changed.paths.remove(changed.path(one, other));
        } else {
            changed.paths.add(List.of(one, other));
        }
        Map<Place, Integer> here = new HashMap<>();
        Map<Place, Integer> there = new HashMap<>();
        return (int) world.places().values().stream()
            .filter(place -> outcome(world.value(place, here)) != outcome(changed.value(place, there))).count();
    }

    public int bestBurrow(int position) {
        Place place = need(position);
        Place best = null;
        for (int fox = 0; fox < world.burrows; fox++) {
            Place tried = new Place(fox, place.first, place.second, place.isGeese);
            if (fox == place.first || fox == place.second || !isFoxWinning(tried)) {
                continue;
            }
            if (best == null || moves(value(tried)) < moves(value(best))) {
                best = tried;
            }
        }
        if (best == null) {
            throw none();
        }
        return best.fox;
    }

    public int burrowOf(int burrow, int what) {
        if (!world.has(burrow)) {
            throw new IndexOutOfBoundsException();
        }
        range(what, 3);
        if (what == 2) {
            return world.traps.contains(burrow) ? 1 : 0;
        }
        if (what == 3) {
            return (int) world.places().values().stream()
                .filter(place -> place.fox == burrow && isFoxWinning(place)).count();
        }
        return (int) world.paths.stream().filter(path -> path.contains(burrow))
            .filter(path -> what == 0 || path.get(0) + path.get(1) - burrow > burrow).count();
    }

    public int pathOf(int path, boolean isOther) {
        return world.paths.get(path).get(isOther ? 1 : 0);
    }

    public int now() {
        if (world.places == null) {
            throw none();
        }
        return last(world).number();
    }

    public int append(char character) {
        if (text.length() == 60) {
            throw new IllegalStateException();
        }
        return text.append(character).length();
    }

    public int commands() {
        String all = text.toString();
        text.setLength(0);
        fault = faultIn(all);
        if (fault >= 0) {
            throw new IllegalArgumentException();
        }
        int[] command = new int[1];
        return change(world -> {
            String[] parts = all.split(";");
            for (int i = 0; i < parts.length; i++) {
                command[0] = i;
                carryOut(world, parts[i].charAt(0), parts[i].substring(1));
            }
            return parts.length;
        }, command);
    }

    private static int faultIn(String all) {
        if (TEXT.matcher(all).matches()) {
            return -1;
        }
        for (int i = 0; i < all.length(); i++) {
            Matcher prefix = TEXT.matcher(all.substring(0, i + 1));
            if (!prefix.matches() && !prefix.hitEnd()) {
                return i;
            }
        }
        return all.length();
    }

    private static int carryOut(World world, char kind, String told) {
        String[] texts = told.isEmpty() ? new String[0] : told.split("[->]");
        int one = texts.length > 0 ? Integer.parseInt(texts[0]) : 0;
        int other = texts.length > 1 ? Integer.parseInt(texts[1]) : 0;
        return switch (kind) {
            case 'd' -> dug(world);
            case 'p' -> trodden(world, one, other);
            case 'x' -> grown(world, one, other);
            case 't' -> trapped(world, one, true);
            case 'f' -> trapped(world, one, false);
            case 'g' -> flocked(world, one);
            case 'b' -> begun(world, one);
            case 'm' -> moved(world, one, other);
            case 'a' -> played(world, one);
            default -> takenBack(world);
        };
    }

    public int faultPosition() {
        return fault;
    }

    public int reason(int what) {
        range(what, 2);
        if (reason == null) {
            throw none();
        }
        return reason[what];
    }

    public int line() {
        List<String> words = new ArrayList<>();
        for (int i = 0; world.steps != null && i < world.steps.size(); i++) {
            Step step = world.steps.get(i);
            words.add(step.from + (world.places.get(i).isGeese ? "g" : "f") + step.to);
        }
        written = String.join(" ", words);
        return written.length();
    }

    public char character(int index) {
        if (index < 0 || index >= written.length()) {
            throw new IndexOutOfBoundsException();
        }
        return written.charAt(index);
    }

    public double meanMoves() {
        if (world.places().isEmpty()) {
            throw new ArithmeticException();
        }
        long sum = world.places().values().stream().mapToLong(place -> moves(value(place))).sum();
        return (double) sum / (double) world.places().size();
    }

    public float drawn() {
        if (world.places().isEmpty()) {
            throw new ArithmeticException();
        }
        return 0.0f;
    }

    public int account(int what) {
        range(what, 10);
        return switch (what) {
            case 0 -> world.burrows;
            case 1 -> world.paths.size();
            case 2 -> world.traps.size();
            case 3 -> world.geese;
            case 4 -> world.places().size();
            case 5 -> (int) world.places().values().stream().filter(place -> world.steps(place).isEmpty()).count();
            case 6 -> world.places().values().stream().mapToInt(place -> moves(value(place))).max().orElse(-1);
            case 7 -> world.steps == null ? -1 : world.steps.size();
            case 8 -> world.begun;
            case 9 -> earlier.size();
            default -> text.length();
        };
    }

    private static void range(int what, int most) {
        if (what < 0 || what > most) {
            throw new IllegalArgumentException();
        }
    }

    public int undo() {
        if (earlier.isEmpty()) {
            throw new IllegalStateException();
        }
        world = earlier.removeFirst();
        return earlier.size();
    }

    public int save() {
        snapshot = world.copied();
        return world.burrows;
    }

    public int restore() {
        if (snapshot == null) {
            throw new IllegalStateException();
        }
        world = snapshot.copied();
        earlier.clear();
        return world.burrows;
    }
}
