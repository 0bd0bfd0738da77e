/** Promises 26 to 31: telling, corks, kinds, the trace, the fault and how many. */
final class PartsPromises extends PromiseTests {
    private static final String KINDS = "t00,00;c40;d70;b20;c90;d10;b90";

    PartsPromises(Check check, Document document) {
        super(check, document);
    }

    @Override void all() {
        tell();
        tellRefused();
        cork();
        corkRefused();
        as();
        asRefused();
        trace();
        faultNumbers();
        faultFirstComeTo();
        faultOfLatest();
        refusalsChangeNothing();
        many();
    }

    private static int traceOf(int... bodies) {
        int trace = 0;
        for (int body : bodies) {
            trace = trace * 31 + body;
        }
        return trace;
    }

    private void leaves(String call, int c, int want, int... bodies) {
        ThunderPost x = Check.officeOf(KINDS);
        answers(x, 0, "trace");
        answers(x, want, call, c);
        answers(x, traceOf(bodies), "trace");
    }

    // ---- 26

    private void tell() {
        says(26, "TELLING of CLAPS by bodies that leave their number in TRACE");
        leaves("tell", 0, 4, 1);
        leaves("tell", 3, 9, 1);
        says(26, "as they begin: CLAP (1): SIZE.");
        leaves("tell", 0, 4, 1);
        says(26, "DRY (2): what CLAP's gives, and 100.");
        leaves("tell", 1, 107, 2, 1);
        leaves("tell", 4, 101, 2, 1);
        says(26, "BOOMING (3): what DRY's gives, and what CLAP's gives (DRY's left out).");
        leaves("tell", 2, 104, 3, 2, 1, 1);
        leaves("tell", 5, 118, 3, 2, 1, 1);
        says(26, "TELLING of a CLAP.");
        ThunderPost x = Check.officeOf(KINDS);
        x.as(0, 1);
        for (int c = 0; c <= 5; c++) {
            answers(x, new int[] {4, 107, 104, 9, 101, 118}[c], "tell", c);
        }
        answers(x, traceOf(1, 2, 1, 3, 2, 1, 1, 1, 2, 1, 3, 2, 1, 1), "trace");
        answers(x, CAST, "fault");
    }

    private void tellRefused() {
        says(26, "UNKNOWN.");
        for (int c : beyond(0, Scene.CLAPS - 1)) {
            refused(Scene.OFFICE, UNKNOWN, "tell", c);
        }
        refused(Scene.SHEETS, UNKNOWN, "tell", 0);
    }

    // ---- 27

    private void cork() {
        says(27, "CORKED by a lent body (4): its number;");
        leaves("cork", 0, 0, 4);
        leaves("cork", 1, 1, 4);
        leaves("cork", 3, 3, 4);
        leaves("cork", 4, 4, 4);
        says(27, "BOOMING ones have their own (5): 60.");
        leaves("cork", 2, 60, 5);
        leaves("cork", 5, 60, 5);
        says(27, "How it is CORKED.");
        ThunderPost x = Check.officeOf(KINDS);
        x.as(0, 1);
        for (int c = 0; c <= 5; c++) {
            answers(x, new int[] {0, 1, 60, 3, 4, 60}[c], "cork", c);
        }
        answers(x, traceOf(4, 4, 5, 4, 4, 5), "trace");
        answers(x, CAST, "fault");
    }

    private void corkRefused() {
        says(27, "UNKNOWN.");
        for (int c : beyond(0, Scene.CLAPS - 1)) {
            refused(Scene.OFFICE, UNKNOWN, "cork", c);
        }
        refused(Scene.SHEETS, UNKNOWN, "cork", 0);
    }

    // ---- 28

    private void as() {
        says(28, "A CLAP, taken as one of a kind: 1.");
        for (int kind = 0; kind <= 2; kind++) {
            tells(() -> Check.officeOf(KINDS), 1, "as", kind, kind);
            tells(() -> Check.officeOf(KINDS), 1, "as", 3 + kind, kind);
        }
        says(28, "CAST: it is none (each is a CLAP, too; a BOOMING one is DRY).");
        for (int c = 0; c <= 5; c++) {
            for (int kind = 0; kind <= 2; kind++) {
                if (kind <= c % 3) {
                    tells(() -> Check.officeOf(KINDS), 1, "as", c, kind);
                } else {
                    faulted(() -> Check.officeOf(KINDS), CAST, "as", c, kind);
                }
            }
        }
    }

    private void asRefused() {
        says(28, "UNKNOWN; OUTSIDE;");
        for (int c : beyond(0, Scene.CLAPS - 1)) {
            refused(Scene.OFFICE, UNKNOWN, "as", c, 0);
            refused(Scene.OFFICE, UNKNOWN, "as", c, 3);
        }
        refused(Scene.SHEETS, UNKNOWN, "as", 0, 0);
        for (int kind : beyond(0, 2)) {
            refused(Scene.OFFICE, OUTSIDE, "as", 0, kind);
            refused(Scene.OFFICE, OUTSIDE, "as", 2, kind);
        }
    }

    // ---- 29

    private void trace() {
        says(29, "TRACE.");
        tells(Scene.NEW, 0, "trace");
        tells(Scene.OFFICE, traceOf(3, 2, 1, 1), "trace");
        says(29, "(an int that wraps, 0 at first, becomes 31 times it and the number)");
        ThunderPost x = Check.officeOf(KINDS);
        int[] due = {5, 160, 4965, 153920, 4771525, 147917280, 290468389, 414585472};
        for (int wrapped : due) {
            x.cork(2);
            answers(x, wrapped, "trace");
        }
        int trace = due[due.length - 1];
        boolean wasBelow = false;
        for (int k = 0; k < 60; k++) {
            x.cork(0);
            trace = trace * 31 + 4;
            wasBelow |= trace < 0;
            answers(x, trace, "trace");
        }
        due("the trace was below 0", wasBelow ? 1 : 0, 1);
    }

    // ---- 30

    private void faultNumbers() {
        says(30, "FAULTS are the machine's: 1 NULL (there is nothing), 2 CAST (it is of another lane, kind), 3 INDEX");
        faulted(Scene.OFFICE, 1, "put", 3, 0, 0);
        faulted(Scene.OFFICE, 2, "cell", 0, 0, 1);
        faulted(Scene.OFFICE, 2, "as", 0, 1);
        faulted(Scene.OFFICE, 3, "put", 0, 60, 0);
        says(30, "4 SIZE (a length below 0).");
        faulted(Scene.OFFICE, 4, "sheet", 0, 0, -1);
        says(30, "fault() tells it.");
        ThunderPost x = Scene.OFFICE.get();
        answers(x, -11, "put", 3, 0, 0);
        answers(x, 1, "fault");
        answers(x, -12, "as", 0, 2);
        answers(x, 2, "fault");
        answers(x, -13, "put", 0, 60, 0);
        answers(x, 3, "fault");
        answers(x, -14, "sheet", 0, 0, -1);
        answers(x, 4, "fault");
        answers(x, 4, "fault");
    }

    private void faultFirstComeTo() {
        says(30, "Of a call the first that is come to, in the order told; it answers -10 less it");
        faulted(Scene.OFFICE, CAST, "office", 0, 1, -1, -1);
        faulted(Scene.OFFICE, NULL, "office", 3, 1, -1, -1);
        faulted(Scene.OFFICE, SIZE, "office", 0, 0, -1, -1);
        faulted(Scene.OFFICE, INDEX, "office", 0, 0, -1, 1);
        faulted(Scene.OFFICE, NULL, "copy", 0, -1, 3, -1, -1);
        faulted(Scene.OFFICE, CAST, "copy", 0, -1, 1, -1, -1);
        faulted(Scene.OFFICE, NULL, "put", 3, -1, 0);
    }

    private void faultOfLatest() {
        says(30, "0: it came to none, or was refused (0 ahead of any).");
        answers(new ThunderPost(), 0, "fault");
        int[][] good = {{0, 0, 0, Scene.CODES}, {2, 2, 0, 5, 0}, {0, 1, 1, 0, 1}, {3, 0, 1}, {1, 0, 0}, {1, 0, 1},
            {1, 0, 1, 1, 1}, {0, 0}};
        int[][] bad = {{4, 0, 0, 0}, {2, 2, 0, 4, 0}, {0, 1, 1, 0, 21}, {0, 0, 61}, {4, 0, 0}, {4, 0, 0}, {0, 0, 4, 0, 0},
            {5, 0}};
        String[] calls = {"office", "open", "shelf", "sheet", "put", "cell", "copy", "as"};
        for (int k = 0; k < calls.length; k++) {
            ThunderPost x = Scene.OFFICE.get();
            x.put(1, -1, 0);
            answers(x, INDEX, "fault");
            due(calls[k] + " is no fault", Face.call(x, calls[k], good[k]) > -10 ? 1 : 0, 1);
            answers(x, 0, "fault");
            x.put(1, -1, 0);
            due(calls[k] + " is refused", Face.call(x, calls[k], bad[k]) < 0 ? 1 : 0, 1);
            answers(x, 0, "fault");
        }
        says(30, "The FAULT of the latest call that names one:");
        int[][] none = {{0, 0}, {0, 0}, {0, 5}, {1}, {0, 0}, {0, 0}, {0, 0}, {0}, {0, 0}, {0, 0}, {0, 0, 0}, {1}, {0}, {0},
            {}, {0, 0, 0}, {0}, {0}, {0}, {}, {0}};
        String[] others = {"ofPerson", "ofClap", "nerve", "damp", "send", "loud", "owner", "last", "ease", "order",
            "reading", "back", "sizes", "kinds", "damps", "odds", "lose", "tell", "cork", "trace", "many"};
        ThunderPost x = Scene.OFFICE.get();
        x.put(1, -1, 0);
        for (int k = 0; k < others.length; k++) {
            due(others[k] + " is not refused", Face.call(x, others[k], none[k]) > -9 ? 1 : 0, 1);
            answers(x, INDEX, "fault");
        }
    }

    private void refusalsChangeNothing() {
        says(30, "they change nothing (but fault(), of a call that names FAULTS).");
        refused(Scene.HEARD, UNKNOWN, "office", 4, 0, 0, Scene.CODES);
        refused(Scene.HEARD, OUTSIDE, "office", 0, 3, 0, Scene.CODES);
        refused(Scene.HEARD, OUTSIDE, "open", 2, 2, 0, 4, 0);
        refused(Scene.HEARD, OUTSIDE, "damp", 4);
        refused(Scene.HEARD, OUTSIDE, "nerve", 0, 10);
        refused(Scene.HEARD, UNKNOWN, "send", 0, 3);
        refused(Scene.HEARD, FULL, "reading", 0, 0, 0);
        refused(Scene.HEARD, OUTSIDE, "back", 9);
        refused(Scene.HEARD, OUTSIDE, "sheet", 0, 0, 61);
        refused(Scene.HEARD, UNKNOWN, "copy", 0, 0, 4, 0, 1);
    }

    // ---- 31

    private void many() {
        says(31, "How many: 0 CLAPS, 1 PEOPLE, 2 DAMP, 3 GAP, 4 READINGS");
        int[] due = {Scene.CLAPS, Scene.PEOPLE, 1, 2, 2};
        for (int what = 0; what <= 4; what++) {
            tells(Scene.OFFICE, due[what], "many", what);
        }
        tells(Scene.HEARD, 8, "many", 4);
        says(31, "(0 all without an OFFICE).");
        for (int what = 0; what <= 4; what++) {
            tells(Scene.NEW, 0, "many", what);
            tells(Scene.SHEETS, 0, "many", what);
        }
        ThunderPost x = withRow(Scene.NEW, 0, 0, Check.codes("t39,95;c1"));
        answers(x, -109, "office", 0, 0, 0, 9);
        for (int what = 0; what <= 4; what++) {
            answers(x, 0, "many", what);
        }
        says(31, "OUTSIDE.");
        for (int what : beyond(0, 4)) {
            refused(Scene.OFFICE, OUTSIDE, "many", what);
            refused(Scene.NEW, OUTSIDE, "many", what);
        }
    }
}
