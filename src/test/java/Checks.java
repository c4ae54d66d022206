import java.util.function.Predicate;
import java.util.function.Supplier;
import java.util.function.ToIntFunction;

/** Counts the answers that are not the ones that are due, each told with the sentence that asks for it. */
final class Checks {
    private String sentence = "";
    private int done = 0;
    private int wrong = 0;

    /** The sentence of the document that the next answers are due by. */
    void sentence(String words) {
        sentence = words;
    }

    void due(String call, long got, long want) {
        due(call, Long.toString(got), Long.toString(want));
    }

    void due(String call, boolean got, boolean want) {
        due(call, Boolean.toString(got), Boolean.toString(want));
    }

    void due(String call, String got, String want) {
        done++;
        if (!got.equals(want)) {
            wrong++;
            System.out.println("\"" + sentence + "\": " + call + " answered " + got + ", due is " + want);
        }
    }

    /** The call answers false, and changes nothing. */
    void refused(String call, Supplier<Pages> maker, Predicate<Pages> refusedCall) {
        changesNothing(call, maker, pages -> refusedCall.test(pages) ? 1 : 0, 0);
    }

    /** The call has that answer, and all later answers are those of a twin on which it was not made. */
    void changesNothing(String call, Supplier<Pages> maker, ToIntFunction<Pages> made, int want) {
        Pages pages = maker.get();
        due(call, made.applyAsInt(pages), want);
        due("what can be seen after " + call, pages.everything(), maker.get().everything());
    }

    void end() {
        System.out.println(wrong == 0 ? done + " answers are as due" : wrong + " answers are not as due");
        if (wrong != 0) {
            System.exit(1);
        }
    }
}
