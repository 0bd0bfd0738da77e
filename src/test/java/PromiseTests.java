import java.util.List;
import java.util.function.Supplier;

/**
 * What the tests of the promises share. Each test begins with the sentence of the document that it would fail
 * for, under the promise's number; a refused call's test also looks at all that later calls answer.
 */
abstract class PromiseTests {
    static final int UNKNOWN = ThunderPost.UNKNOWN, OUTSIDE = ThunderPost.OUTSIDE, STATE = ThunderPost.STATE;
    static final int FULL = ThunderPost.FULL, NONE = ThunderPost.NONE;
    static final long LOST = ThunderPost.LOST;
    static final int NULL = 1, CAST = 2, INDEX = 3, SIZE = 4;
    static final int LEAST = Integer.MIN_VALUE, MOST = Integer.MAX_VALUE;

    private final Check check;
    private final Document document;
    private String heading = "";

    PromiseTests(Check check, Document document) {
        this.check = check;
        this.document = document;
    }

    abstract void all();

    final void says(int promise, String sentence) {
        heading = "promise " + promise + " (" + sentence + ")";
        check.due("the document says it: " + heading, document.quote(promise, sentence) ? 1 : 0, 1);
    }

    final void due(String what, long got, long want) {
        check.due(heading + ": " + what, got, want);
    }

    final void answers(ThunderPost x, long want, String call, int... args) {
        due(Face.text(call, args), Face.call(x, call, args), want);
    }

    /** A refusal; fault() stays as it was, or becomes 0 if the call names faults. */
    final void refused(Supplier<ThunderPost> scene, long refusal, String call, int... args) {
        changesNothing(scene, refusal, 0, call, args);
    }

    final void faulted(Supplier<ThunderPost> scene, int fault, String call, int... args) {
        changesNothing(scene, Face.answersLong(call) ? LOST : -10L - fault, fault, call, args);
    }

    /** An answer of a call that only tells something. */
    final void tells(Supplier<ThunderPost> scene, long answer, String call, int... args) {
        changesNothing(scene, answer, 0, call, args);
    }

    // A twin that is not asked shows what is due behind the call.
    private void changesNothing(Supplier<ThunderPost> scene, long answer, int fault, String call, int... args) {
        ThunderPost x = scene.get();
        int before = leaveAnotherFault(x, fault);
        answers(x, answer, call, args);
        String text = Face.text(call, args);
        due("fault() behind " + text, x.fault(), Face.namesFaults(call) ? fault : before);
        List<String> seen = Look.at(x);
        List<String> wanted = Look.at(scene.get());
        int at = 0;
        while (at < seen.size() && at < wanted.size() && seen.get(at).equals(wanted.get(at))) {
            at++;
        }
        String change = at < seen.size() ? seen.get(at) : at < wanted.size() ? "nothing more" : "";
        due("changed behind " + text + ": " + change, at, Math.max(seen.size(), wanted.size()));
    }

    private static int leaveAnotherFault(ThunderPost x, int fault) {
        if (fault == SIZE) {
            x.put(3, -1, 0);
        } else {
            x.sheet(0, 0, -1);
        }
        return x.fault();
    }

    /** Numbers that are not least .. most: the next ones, and the farthest. */
    static int[] beyond(int least, int most) {
        return new int[] {least - 1, most + 1, LEAST, MOST};
    }

    /** An object whose sheet has a row. */
    static ThunderPost withRow(Supplier<ThunderPost> scene, int sheet, int lane, int... cells) {
        ThunderPost x = scene.get();
        Check.write(x, sheet, lane, cells);
        return x;
    }
}
