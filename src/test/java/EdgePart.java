import java.util.List;
import java.util.function.Supplier;
import java.util.function.ToIntFunction;

/** Tests of one part of the document, each of which says which sentence it holds. */
abstract class EdgePart {
    final Check check;
    private final Doc doc;

    EdgePart(Check check, Doc doc) {
        this.check = check;
        this.doc = doc;
    }

    abstract void run();

    /** What is checked from here on holds these words of the document. */
    final void sentence(String section, String words) {
        check.about(section + ", \"" + words + "\": ");
        check.due("the document says so", doc.says(section, words) ? 1 : 0, 1);
    }

    /** Numbers of which there is none where there are n. */
    static int[] none(int n) {
        return new int[] {-1, n, -2, Integer.MAX_VALUE, Integer.MIN_VALUE};
    }

    static int[] row(int... numbers) {
        return numbers;
    }

    /** Two objects that differ in nothing that can be asked. */
    final void alike(String what, Prorates got, Prorates want) {
        alikeBut("nothing", what, got, want);
    }

    /** Two objects that differ at most in what the one call answers. */
    final void alikeBut(String call, String what, Prorates got, Prorates want) {
        List<String> answers = Everything.of(got);
        List<String> wanted = Everything.of(want);
        check.due(what + ": how many answers", answers.size(), wanted.size());
        for (int i = 0; i < answers.size() && i < wanted.size(); i++) {
            boolean same = answers.get(i).equals(wanted.get(i)) || answers.get(i).startsWith(call);
            check.due(what + ": " + answers.get(i) + " (due: " + wanted.get(i) + ")", same ? 1 : 0, 1);
        }
    }

    /** A call on a new object that answers so and changes nothing. */
    final void refused(String what, Supplier<Prorates> made, ToIntFunction<Prorates> call, int want) {
        Prorates x = made.get();
        check.due(what, call.applyAsInt(x), want);
        alike(what + " changes nothing", x, made.get());
    }
}
