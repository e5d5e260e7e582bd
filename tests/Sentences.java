import java.io.IOException;
import java.util.ArrayList;
import java.util.List;
import java.util.Map;
import java.util.function.Supplier;

/**
 * Checks for one sentence of the document after another. A call that throws is made on one of two fields that are alike,
 * and both have to answer alike afterwards: so the state is as it was.
 */
final class Sentences {
    /** A call on a field. */
    interface Use {
        Object on(FoxBurrows field);
    }

    private final Check check;
    private final Document document = new Document();
    private final Map<Integer, List<String>> quoted = new java.util.TreeMap<>();
    private String told = "";
    private Supplier<FoxBurrows> made = FoxBurrows::new;

    Sentences(Check check) throws IOException {
        this.check = check;
    }

    /** The promise and the sentence that the next checks are for. */
    void of(int promise, String sentence) {
        told = "promise " + promise + ": " + sentence;
        check.same(told + ": stands in the document", document.says(promise, sentence), true);
        quoted.computeIfAbsent(promise, number -> new ArrayList<>()).add(sentence);
        System.out.println(told);
    }

    void same(String what, Object got, Object due) {
        check.same(told + ": " + what, got, due);
    }

    /**
     * The field on which the next calls throw, made anew for each; with a character in the buffer, a written line and a
     * snapshot besides, as none of them may change.
     */
    void given(Supplier<FoxBurrows> maker) {
        givenBare(() -> {
            FoxBurrows field = maker.get();
            field.append('x');
            field.line();
            field.save();
            return field;
        });
    }

    void givenBare(Supplier<FoxBurrows> maker) {
        made = maker;
    }

    /** A call that throws; the state, the fault position and the reason are as they were. */
    void fails(String what, Class<? extends RuntimeException> due, Use use) {
        FoxBurrows field = made.get();
        FoxBurrows untouched = made.get();
        same(what, Check.thrownBy(() -> use.on(field)), due.getName());
        same(what + ": the reason is as it was", reason(field), reason(untouched));
        same(what + ": the fault position is as it was", field.faultPosition(), untouched.faultPosition());
        same(what + ": the state is as it was", whole(field), whole(untouched));
    }

    /** A call that is refused: the reason is kept with its detail and the index 0; the state is as it was. */
    void refused(String what, int why, int detail, Use use) {
        FoxBurrows field = made.get();
        FoxBurrows untouched = made.get();
        same(what, Check.thrownBy(() -> use.on(field)), UnsupportedOperationException.class.getName());
        same(what + ": the reason with its detail and index", reason(field), why + " " + detail + " 0");
        same(what + ": the fault position is as it was", field.faultPosition(), untouched.faultPosition());
        same(what + ": the state is as it was", whole(field), whole(untouched));
    }

    /** A text, given on an empty buffer, of which a command is refused; the buffer is empty then, and there is no fault. */
    void refusedText(String text, int why, int detail, int index) {
        FoxBurrows field = made.get();
        FoxBurrows untouched = made.get();
        Check.type(field, text);
        same(text, Check.thrownBy(field::commands), UnsupportedOperationException.class.getName());
        same(text + ": the reason with its detail and index", reason(field), why + " " + detail + " " + index);
        same(text + ": no fault", field.faultPosition(), -1);
        same(text + ": the state is as it was", whole(field), whole(untouched));
    }

    /** A text, given on an empty buffer, with a fault; the buffer is empty then, and the reason is as it was. */
    void faulty(String text, int fault) {
        FoxBurrows field = made.get();
        FoxBurrows untouched = made.get();
        Check.type(field, text);
        same(text, Check.thrownBy(field::commands), IllegalArgumentException.class.getName());
        same(text + ": the fault position", field.faultPosition(), fault);
        same(text + ": the reason is as it was", reason(field), reason(untouched));
        same(text + ": the state is as it was", whole(field), whole(untouched));
    }

    /** The three numbers of the reason, or what is thrown instead. */
    static String reason(FoxBurrows field) {
        String thrown = Check.thrownBy(() -> field.reason(0));
        return thrown.startsWith("nothing") ? field.reason(0) + " " + field.reason(1) + " " + field.reason(2) : thrown;
    }

    /** All that a field tells, also of what undo and restore bring back; it is used up by that, in some 300 calls. */
    static String whole(FoxBurrows field) {
        StringBuilder text = new StringBuilder(Check.picture(field));
        text.append(" written ").append(written(field));
        text.append(" line ").append(Check.line(field));
        while (Check.thrownBy(field::undo).startsWith("nothing")) {
            text.append(" before ").append(few(field));
        }
        text.append(" saved ").append(Check.thrownBy(field::restore)).append(' ').append(few(field));
        return text.toString();
    }

    /** The line as it was written before. */
    static String written(FoxBurrows field) {
        StringBuilder text = new StringBuilder();
        int index = 0;
        while (Check.thrownBy(at(field, index)).startsWith("nothing")) {
            text.append(field.character(index));
            index++;
        }
        return text.toString();
    }

    private static Check.Call at(FoxBurrows field, int index) {
        return () -> field.character(index);
    }

    private static String few(FoxBurrows field) {
        StringBuilder text = new StringBuilder();
        int[] accounts = {0, 1, 2, 3, 7, 8, 9};
        for (int what : accounts) {
            text.append(field.account(what)).append(',');
        }
        return text.append(Check.thrownBy(field::now)).toString();
    }

    /** Each sentence of the document is quoted by a test, or told to be plain: one that names no boundary. */
    void end(List<String> plain) {
        for (Map.Entry<Integer, List<String>> promise : document.all().entrySet()) {
            for (String sentence : promise.getValue()) {
                String what = "promise " + promise.getKey() + " has a test for: " + sentence;
                check.same(what, plain.contains(sentence) || isQuoted(promise.getKey(), sentence), true);
            }
        }
        for (String sentence : plain) {
            boolean isThere = document.all().values().stream().anyMatch(list -> list.contains(sentence));
            check.same("a plain sentence: " + sentence, isThere, true);
        }
    }

    private boolean isQuoted(int promise, String sentence) {
        for (Map.Entry<Integer, List<String>> tested : quoted.entrySet()) {
            boolean isOfIt = promise == 0 || promise == tested.getKey();
            if (isOfIt && tested.getValue().stream().anyMatch(quote -> quote.contains(sentence))) {
                return true;
            }
        }
        return false;
    }
}
