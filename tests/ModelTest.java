import java.lang.reflect.InvocationTargetException;
import java.lang.reflect.Method;
import java.lang.reflect.Modifier;
import java.util.ArrayList;
import java.util.Arrays;
import java.util.Comparator;
import java.util.List;

/** All promises: long runs of calls, each answer the same as that of the model. */
public final class ModelTest {
    private static final int RUNS = 400;
    private static final int CALLS = 512;
    private static final Check CHECK = new Check();

    private long seed;
    private final FoxBurrows real = new FoxBurrows();
    private final Model model = new Model();
    private final List<String> calls = new ArrayList<>();
    private int characters;
    private int wrong;

    private ModelTest(long seed) {
        this.seed = seed * 7919 + 12345;
    }

    public static void main(String[] arguments) throws ReflectiveOperationException {
        List<Method> methods = methods();
        CHECK.same("methods of the face", methods.size(), 36);
        for (int run = 0; run < RUNS; run++) {
            ModelTest test = new ModelTest(run);
            test.run(run, methods);
            if (test.wrong > 0) {
                break;
            }
        }
        CHECK.end("ModelTest");
    }

    private static List<Method> methods() {
        List<Method> found = new ArrayList<>();
        for (Method method : FoxBurrows.class.getDeclaredMethods()) {
            if (Modifier.isPublic(method.getModifiers())) {
                found.add(method);
            }
        }
        found.sort(Comparator.comparing(Method::getName));
        return found;
    }

    /** The same numbers in each run of the test. */
    private int below(int bound) {
        seed = seed * 6364136223846793005L + 1442695040888963407L;
        return (int) ((seed >>> 33) % bound);
    }

    private void run(int run, List<Method> methods) throws ReflectiveOperationException {
        int burrows = 2 + below(7);
        for (int i = 0; i < burrows; i++) {
            call(run, "dig");
        }
        for (int i = 0; i < burrows + below(9); i++) {
            call(run, "tread", below(burrows), below(burrows));
        }
        if (below(2) == 0) {
            call(run, "flock", 2);
        }
        while (used() < CALLS && wrong == 0) {
            step(run, methods);
        }
    }

    /** All calls of the object, those that read the line too; what is asked besides, is asked of the model. */
    private int used() {
        return calls.size() + characters;
    }

    private void step(int run, List<Method> methods) throws ReflectiveOperationException {
        int choice = below(12);
        if (choice == 0 && model.account(7) >= 0) {
            call(run, "play", 1 + below(3));
        } else if (choice <= 3 && model.account(7) >= 0) {
            realMove(run);
        } else if (choice == 4) {
            typeText(run);
        } else if (choice == 5 && model.account(7) < 0) {
            call(run, "begin", somePosition());
        } else {
            Method method = methods.get(below(methods.size()));
            if (endsGame(method.getName()) && below(3) > 0) {
                return;
            }
            call(run, method.getName(), someArguments(method));
        }
    }

    private static boolean endsGame(String name) {
        return List.of("dig", "tread", "grow", "trap", "flock", "restore", "undo").contains(name);
    }

    private void realMove(int run) throws ReflectiveOperationException {
        int position = model.now();
        int moves = model.positionOf(position, 4);
        if (moves > 0) {
            int place = below(moves);
            call(run, "move", model.moveOf(position, place, false), model.moveOf(position, place, true));
        } else {
            call(run, "begin", somePosition());
        }
    }

    private void typeText(int run) throws ReflectiveOperationException {
        StringBuilder text = new StringBuilder();
        int commands = 1 + below(4);
        for (int i = 0; i < commands; i++) {
            text.append(i == 0 ? "" : ";").append(someCommand());
        }
        if (below(4) == 0) {
            text.setCharAt(below(text.length()), "dpxtfgbmau;->0123456789 q\u0664".charAt(below(26)));
        }
        for (int i = 0; i < text.length() && model.account(10) < 60; i++) {
            call(run, "append", text.charAt(i));
        }
        call(run, "commands");
        call(run, "faultPosition");
    }

    private String someCommand() {
        int one = someBurrow(9);
        int other = someBurrow(9);
        switch (below(14)) {
            case 0:
                return "d";
            case 1:
                return "p" + one + "-" + other;
            case 2:
                return "x" + one + "-" + other;
            case 3:
                return "t" + one;
            case 4:
                return "f" + one;
            case 5:
                return "g" + below(4);
            case 6:
            case 7:
            case 8:
                return "b" + somePosition();
            case 9:
                return "m" + one + ">" + other;
            case 10:
            case 11:
                return "a" + below(45);
            default:
                return "u";
        }
    }

    private int someBurrow(int most) {
        int burrows = model.account(0);
        return burrows > 0 && below(10) > 0 ? below(burrows) : below(most + 1);
    }

    private int somePosition() {
        int burrows = model.account(0);
        int geese = model.account(3);
        for (int i = 0; i < 20 && burrows > geese; i++) {
            int fox = below(burrows);
            int first = below(burrows);
            int second = geese == 1 ? -1 : below(burrows);
            if (fox != first && fox != second && (geese == 1 || first < second)) {
                return Check.number(fox, first, second, below(2) == 0);
            }
        }
        return below(1300);
    }

    private Object[] someArguments(Method method) {
        Class<?>[] types = method.getParameterTypes();
        Object[] arguments = new Object[types.length];
        boolean isOfPosition = List.of("positionOf", "outcomeAgain", "moveOf", "best", "after", "ends", "bestBurrow",
            "begin").contains(method.getName());
        for (int i = 0; i < types.length; i++) {
            if (types[i] == boolean.class) {
                arguments[i] = below(2) == 0;
            } else if (types[i] == char.class) {
                arguments[i] = (char) below(300);
            } else {
                arguments[i] = someNumber(isOfPosition && i == 0);
            }
        }
        return arguments;
    }

    private int someNumber(boolean isPosition) {
        switch (below(isPosition ? 12 : 8)) {
            case 0:
                return below(3) - 1;
            case 1:
                return below(60) - 5;
            case 2:
                return below(20) == 0 ? Integer.MAX_VALUE - below(3) : below(12);
            case 3:
                return below(20) == 0 ? Integer.MIN_VALUE + below(3) : below(9);
            default:
                return isPosition ? somePosition() : someBurrow(8);
        }
    }

    private void call(int run, String name, Object... arguments) throws ReflectiveOperationException {
        if (used() >= CALLS) {
            return;
        }
        String told = name + Arrays.toString(arguments);
        calls.add(told);
        Object got = answer(real, name, arguments);
        Object due = answer(model, name, arguments);
        if (!got.equals(due)) {
            wrong++;
            System.out.println("run " + run + ": " + String.join(" ", calls));
        }
        CHECK.same("run " + run + ", call " + calls.size() + ": " + told, got, due);
        if (name.equals("line")) {
            readLine(run);
        }
    }

    private void readLine(int run) throws ReflectiveOperationException {
        Object sign = 'x';
        for (int i = 0; sign instanceof Character && used() < CALLS; i++) {
            sign = answer(real, "character", i);
            characters++;
            CHECK.same("run " + run + ", call " + calls.size() + ": character " + i, sign, answer(model, "character", i));
        }
    }

    private static Object answer(Object target, String name, Object... arguments) throws ReflectiveOperationException {
        Class<?>[] types = new Class<?>[arguments.length];
        for (int i = 0; i < types.length; i++) {
            types[i] = arguments[i] instanceof Boolean ? boolean.class
                : arguments[i] instanceof Character ? char.class : int.class;
        }
        try {
            return target.getClass().getMethod(name, types).invoke(target, arguments);
        } catch (InvocationTargetException thrown) {
            String kind = thrown.getCause().getClass().getName();
            return target instanceof Model ? kind.replace("java.lang.ArrayIndex", "java.lang.Index") : kind;
        }
    }
}
