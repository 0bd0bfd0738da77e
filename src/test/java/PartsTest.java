/** Promises 26 to 31: telling, corks, kinds, the trace, the fault and how many. */
public final class PartsTest {
    private static final String TEXT = "t12,51,82,30;c40;d71;b22;c50;d92";
    private static final Check CHECK = new Check("PartsTest");

    public static void main(String[] args) {
        tell();
        cork();
        traceWraps();
        as();
        fault();
        many();
        CHECK.end();
    }

    private static void tell() {
        CHECK.due("a clap tells", Check.officeOf(TEXT).tell(0), 4);
        CHECK.due("a dry one tells", Check.officeOf(TEXT).tell(1), 107);
        CHECK.due("a booming one tells", Check.officeOf(TEXT).tell(2), 104);
        traced("a clap", 0, 1);
        traced("a dry one", 1, 2, 1);
        traced("a booming one", 2, 3, 2, 1, 1);
        ThunderPost x = Check.officeOf(TEXT);
        CHECK.due("tell(5)", x.tell(5), ThunderPost.UNKNOWN);
        CHECK.due("tell(-1)", x.tell(-1), ThunderPost.UNKNOWN);
        CHECK.due("trace()", x.trace(), 0);
        CHECK.due("tell(0) without an office", new ThunderPost().tell(0), ThunderPost.UNKNOWN);
    }

    private static void traced(String who, int c, int... bodies) {
        ThunderPost x = Check.officeOf(TEXT);
        x.tell(c);
        CHECK.due("trace of " + who, x.trace(), traceOf(bodies));
    }

    private static int traceOf(int... bodies) {
        int trace = 0;
        for (int body : bodies) {
            trace = trace * 31 + body;
        }
        return trace;
    }

    private static void cork() {
        ThunderPost x = Check.officeOf(TEXT);
        CHECK.due("cork(0)", x.cork(0), 0);
        CHECK.due("cork(1)", x.cork(1), 1);
        CHECK.due("cork(2)", x.cork(2), 60);
        CHECK.due("cork(4)", x.cork(4), 4);
        CHECK.due("trace()", x.trace(), traceOf(4, 4, 5, 4));
        CHECK.due("cork(5)", x.cork(5), ThunderPost.UNKNOWN);
        CHECK.due("cork(-1)", x.cork(-1), ThunderPost.UNKNOWN);
        CHECK.due("trace() behind refusals", x.trace(), traceOf(4, 4, 5, 4));
    }

    private static void traceWraps() {
        ThunderPost x = Check.officeOf(TEXT);
        int due = 0;
        for (int k = 0; k < 40; k++) {
            x.tell(0);
            x.cork(2);
            due = (due * 31 + 1) * 31 + 5;
            CHECK.due("trace() behind " + k, x.trace(), due);
        }
    }

    private static void as() {
        ThunderPost x = Check.officeOf(TEXT);
        for (int c = 0; c <= 2; c++) {
            for (int kind = 0; kind <= 2; kind++) {
                String call = "as(" + c + ", " + kind + ")";
                if (kind <= c) {
                    CHECK.dueRefused(call, x, x.as(c, kind), 1);
                } else {
                    CHECK.dueFault(call, x, x.as(c, kind), 2);
                }
            }
        }
        x.as(0, 2);
        CHECK.dueRefused("as(0, 3)", x, x.as(0, 3), ThunderPost.OUTSIDE);
        x.as(0, 2);
        CHECK.dueRefused("as(0, -1)", x, x.as(0, -1), ThunderPost.OUTSIDE);
        x.as(0, 2);
        CHECK.dueRefused("as(5, 3)", x, x.as(5, 3), ThunderPost.UNKNOWN);
        CHECK.dueRefused("as(-1, 0)", x, x.as(-1, 0), ThunderPost.UNKNOWN);
    }

    private static void fault() {
        ThunderPost x = Check.officeOf(TEXT);
        x.as(0, 1);
        long named = 0;
        named += x.ofPerson(9, 9) + x.ofClap(9, 9) + x.nerve(9, 9) + x.damp(9) + x.send(9, 9) + x.loud(9, 9);
        named += x.owner(9, 9) + x.last(9) + x.ease(9, 9) + x.order(99, 9) + x.reading(9, 9, 9) + x.back(9);
        named += x.sizes(9) + x.kinds(9) + x.damps() + x.odds(9, 9, 9) + x.lose(9) + x.tell(9) + x.cork(9);
        named += x.tell(0) + x.cork(0) + x.loud(0, 0) + x.lose(3) + x.trace() + x.many(9);
        CHECK.due("fault() behind calls that name none (" + named + ")", x.fault(), 2);
        CHECK.due("fault() again", x.fault(), 2);
        x.sheet(1, 0, 1);
        CHECK.due("fault() behind a sheet", x.fault(), 0);
        x.as(0, 1);
        x.put(1, 0, 1);
        CHECK.due("fault() behind a put", x.fault(), 0);
        x.as(0, 1);
        x.copy(1, 0, 1, 0, 1);
        CHECK.due("fault() behind a copy", x.fault(), 0);
        x.as(0, 1);
        x.cell(1, 0, 0);
        CHECK.due("fault() behind a cell", x.fault(), 0);
        x.as(0, 1);
        x.shelf(0, 1, 0, 0, 1);
        CHECK.due("fault() behind a shelf", x.fault(), 0);
        x.as(0, 1);
        x.office(1, 0, 0, 1);
        CHECK.due("fault() behind a text that is none", x.fault(), 0);
        x.as(0, 1);
        x.office(0, 0, 0, TEXT.length());
        CHECK.due("fault() behind a text", x.fault(), 0);
    }

    private static void many() {
        ThunderPost x = Check.officeOf(TEXT);
        x.reading(0, 0, 0);
        int[] due = {5, 3, 1, 2, 1};
        for (int what = 0; what <= 4; what++) {
            CHECK.due("many(" + what + ")", x.many(what), due[what]);
        }
        CHECK.due("many(5)", x.many(5), ThunderPost.OUTSIDE);
        CHECK.due("many(-1)", x.many(-1), ThunderPost.OUTSIDE);
    }
}
