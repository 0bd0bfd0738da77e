import java.util.function.Supplier;

/** Promises 13 and 14: the first wrong clap of a shelf, and an order in which none is wrong. */
final class ShelfPromises extends PromiseTests {
    ShelfPromises(Check check, Document document) {
        super(check, document);
    }

    @Override void all() {
        standsAlready();
        byGap();
        shelfNone();
        shelfCells();
        shelfRefused();
        shelfFaults();
        shelfOfNoClap();
        order();
        orderNone();
        orderRefused();
    }

    // ---- 13

    private void wrong(String text, int m, int want, int... row) {
        Supplier<ThunderPost> scene = () -> withRow(() -> Check.officeOf(text), 1, 2, row);
        tells(scene, want, "shelf", m, 1, 2, 0, row.length);
    }

    private void standsAlready() {
        says(13, "A SHELF told: a row of CLAPS. FIRST WRONG behind m MONTHS: the first CLAP that stands on it already,");
        String even = "t00,90;c10;c10;c10;c10;c10;c10";
        wrong(even, 0, NONE, 5, 4, 3, 2, 1, 0);
        wrong(even, 0, 1, 0, 0);
        wrong(even, 0, 1, 5, 5);
        wrong(even, 0, 2, 0, 1, 0);
        wrong(even, 0, 6, 0, 1, 2, 3, 4, 5, 0);
        wrong(even, 0, 3, 0, 1, 2, 1, 0, 2);
        wrong(even, 9, 6, 5, 4, 3, 2, 1, 0, 0, 0, 0, 0, 0, 0, 0, 0, 0, 0, 0, 0, 0, 0);
    }

    private void byGap() {
        says(13, "or that is not by GAP at least LOUDER or less LOUD than the one ahead of it.");
        for (int gap = 0; gap <= 9; gap++) {
            String text = "t0" + gap + ",90;c10;c50;c50;d90;b90";
            wrong(text, 0, gap <= 4 ? NONE : 1, 0, 1);
            wrong(text, 0, gap <= 4 ? NONE : 1, 1, 0);
            wrong(text, 0, gap <= 0 ? NONE : 1, 1, 2);
            wrong(text, 0, gap <= 3 ? NONE : 1, 3, 1);
            wrong(text, 0, NONE, 4, 0);
            wrong(text, 0, gap <= 4 ? NONE : 2, 4, 0, 1);
        }
        says(13, "than the one ahead of it.");
        wrong("t02,90;c10;c30;c20", 0, 2, 0, 1, 2);
        wrong("t02,90;c10;c30;c10", 0, NONE, 0, 1, 2);
        says(13, "FIRST WRONG behind m MONTHS:");
        wrong("t11,90;c30;b10", 0, NONE, 0, 1);
        wrong("t11,90;c30;b10", 1, 1, 0, 1);
        wrong("t11,90;c30;b10", 2, NONE, 0, 1);
        wrong("t19,90;c90;b10", 9, 1, 0, 1);
        wrong("t29,90;c90;b10", 9, NONE, 0, 1);
    }

    private void shelfNone() {
        says(13, "A SHELF of n such cells behind m MONTHS: FIRST WRONG; NONE.");
        tells(Scene.OFFICE, NONE, "shelf", 0, 1, 1, 0, 0);
        tells(Scene.SHEETS, NONE, "shelf", 0, 1, 1, 0, 0);
        tells(Scene.SHEETS, NONE, "shelf", 0, 0, 0, 0, 0);
        for (int c = 0; c < Scene.CLAPS; c++) {
            wrong(Scene.TEXT, 9, NONE, c);
        }
        wrong(Scene.TEXT, 3, NONE, 0, 1, 4, 3, 2);
        wrong(Scene.TEXT, 3, 4, 0, 1, 4, 3, 1);
        wrong(Scene.TEXT, 3, 3, 0, 1, 4, 2, 3);
    }

    private void shelfCells() {
        says(13, "A SHELF of n such cells");
        for (int lane = 0; lane <= 2; lane++) {
            for (int k = 0; k <= 3; k++) {
                ThunderPost x = withRow(Scene.OFFICE, k, lane, 9, 9, 0, 1, 4, 3, 1, 9);
                answers(x, 4, "shelf", 3, k, lane, 2, 5);
                answers(x, NONE, "shelf", 3, k, lane, 2, 4);
                answers(x, 3, "shelf", 3, k, lane, 3, 4);
                answers(x, UNKNOWN, "shelf", 3, k, lane, 1, 5);
                answers(x, UNKNOWN, "shelf", 3, k, lane, 2, 6);
            }
        }
        says(13, "(of cells from i on also where i is not 0 .. how many there are, if none of them is taken, too)");
        for (int i = 0; i <= Scene.ROW.length; i++) {
            tells(Scene.OFFICE, NONE, "shelf", 0, 1, 1, i, 0);
        }
        for (int i : beyond(0, Scene.ROW.length)) {
            faulted(Scene.OFFICE, INDEX, "shelf", 0, 1, 1, i, 0);
            faulted(Scene.SHEETS, INDEX, "shelf", 0, 1, 1, i, 0);
        }
        for (int i : beyond(0, 0)) {
            faulted(Scene.SHEETS, INDEX, "shelf", 0, 0, 0, i, 0);
        }
    }

    private void shelfRefused() {
        says(13, "UNKNOWN: SHEET;");
        for (int k : beyond(0, 3)) {
            refused(Scene.OFFICE, UNKNOWN, "shelf", 0, k, 1, 0, 1);
            refused(Scene.OFFICE, UNKNOWN, "shelf", 10, k, 3, -1, 21);
        }
        says(13, "OUTSIDE: m (0 .. 9), lane, n (0 .. 20);");
        for (int m : beyond(0, 9)) {
            refused(Scene.OFFICE, OUTSIDE, "shelf", m, 1, 1, 0, 1);
            refused(Scene.OFFICE, OUTSIDE, "shelf", m, 3, 1, -1, 1);
            refused(Scene.SHEETS, OUTSIDE, "shelf", m, 1, 1, 0, 0);
        }
        tells(Scene.OFFICE, NONE, "shelf", 9, 1, 1, 0, 1);
        for (int lane : beyond(0, 2)) {
            refused(Scene.OFFICE, OUTSIDE, "shelf", 0, 1, lane, 0, 1);
            refused(Scene.OFFICE, OUTSIDE, "shelf", 0, 3, lane, -1, 1);
        }
        for (int n : beyond(0, 20)) {
            refused(Scene.OFFICE, OUTSIDE, "shelf", 0, 1, 1, 0, n);
            refused(Scene.OFFICE, OUTSIDE, "shelf", 0, 3, 1, -1, n);
            refused(() -> withRow(Scene.OFFICE, 1, 1, new int[60]), OUTSIDE, "shelf", 0, 1, 1, 0, n);
        }
        tells(() -> withRow(Scene.OFFICE, 1, 1, new int[60]), 1, "shelf", 0, 1, 1, 0, 20);
        tells(() -> withRow(Scene.OFFICE, 1, 1, new int[60]), 1, "shelf", 0, 1, 1, 40, 20);
    }

    private void shelfFaults() {
        says(13, "FAULTS CAST, NULL, INDEX;");
        for (Scene scene : new Scene[] {Scene.SHEETS, Scene.OFFICE}) {
            for (int k = 0; k <= 2; k++) {
                for (int more = 1; more <= 2; more++) {
                    faulted(scene, CAST, "shelf", 0, k, (k + more) % 3, 0, 1);
                    faulted(scene, CAST, "shelf", 0, k, (k + more) % 3, -1, 20);
                }
                faulted(scene, NULL, "shelf", 0, 3, k, 0, 0);
                faulted(scene, NULL, "shelf", 0, 3, k, -1, 20);
            }
            faulted(scene, INDEX, "shelf", 0, 1, 1, 0, 8);
            faulted(scene, INDEX, "shelf", 0, 1, 1, 5, 3);
            faulted(scene, INDEX, "shelf", 0, 1, 1, -1, 1);
            faulted(scene, INDEX, "shelf", 0, 1, 1, MOST, 1);
            faulted(scene, INDEX, "shelf", 0, 1, 1, MOST, 20);
            faulted(scene, INDEX, "shelf", 0, 1, 1, LEAST, 20);
        }
    }

    private void shelfOfNoClap() {
        says(13, "UNKNOWN: a cell is no CLAP.");
        for (int place = 0; place <= 3; place++) {
            for (int c : beyond(0, Scene.CLAPS - 1)) {
                int[] row = {0, 0, 0, 0};
                row[place] = c;
                refused(() -> withRow(Scene.OFFICE, 1, 2, row), UNKNOWN, "shelf", 0, 1, 2, 0, 4);
            }
        }
        refused(() -> withRow(Scene.OFFICE, 1, 2, 5), UNKNOWN, "shelf", 0, 1, 2, 0, 1);
        refused(Scene.SHEETS, UNKNOWN, "shelf", 0, 1, 1, 0, 1);
        int[] longRow = new int[20];
        longRow[19] = 5;
        refused(() -> withRow(Scene.OFFICE, 1, 2, longRow), UNKNOWN, "shelf", 0, 1, 2, 0, 20);
    }

    // ---- 14

    private void ordered(String text, int m, int... due) {
        Supplier<ThunderPost> scene = () -> Check.officeOf(text);
        for (int k = 0; k <= 5; k++) {
            tells(scene, due[k], "order", m, k);
        }
    }

    private void order() {
        says(14, "ORDER behind m MONTHS: a SHELF of all CLAPS that is not wrong: the first as a row;");
        ordered(Scene.TEXT, 0, 0, 1, 2, 4, 3, NONE);
        ordered(Scene.TEXT, 2, 1, 0, 2, 4, 3, NONE);
        ordered(Scene.TEXT, 9, 0, 1, 2, 3, 4, NONE);
        ordered("t02,90;c10;c20;c30;c40;c50;c60", 0, 0, 2, 4, 1, 3, 5);
        ordered("t03,90;c10;c20;c30;c40;c50;c60", 9, 2, 5, 1, 4, 0, 3);
        ordered("t00,90;c10;c10;c10;c10;c10;c10", 0, 0, 1, 2, 3, 4, 5);
        ordered("t09,90;b90;d10;b80;c20;b70;c10", 0, 0, 1, 2, 3, 4, 5);
        ordered("t09,90;d10;c10;c20;b90;b80;b70", 0, 0, 3, 1, 4, 2, 5);
        ordered("t01,90;c10;c10;c20", 0, 0, 2, 1, NONE, NONE, NONE);
    }

    private void orderNone() {
        says(14, "NONE: there is none.");
        ordered("t04,90;c10;c20;c30;c40;c50;c60", 0, NONE, NONE, NONE, NONE, NONE, NONE);
        ordered("t01,90;c10;c10", 0, NONE, NONE, NONE, NONE, NONE, NONE);
        ordered("t11,90;c30;b10", 1, NONE, NONE, NONE, NONE, NONE, NONE);
        says(14, "The k-th CLAP (0 .. 5) of ORDER behind m MONTHS (0 .. 9); NONE: there are not so many, there is none.");
        ordered("t09,90;c10", 0, 0, NONE, NONE, NONE, NONE, NONE);
        ordered("t09,90;c10", 9, 0, NONE, NONE, NONE, NONE, NONE);
        ordered("t04,90;c10;c90", 0, 0, 1, NONE, NONE, NONE, NONE);
    }

    private void orderRefused() {
        says(14, "OUTSIDE; STATE: there is no OFFICE.");
        for (int m : beyond(0, 9)) {
            refused(Scene.OFFICE, OUTSIDE, "order", m, 0);
            refused(Scene.SHEETS, OUTSIDE, "order", m, 0);
        }
        for (int k : beyond(0, 5)) {
            refused(Scene.OFFICE, OUTSIDE, "order", 0, k);
            refused(Scene.SHEETS, OUTSIDE, "order", 0, k);
        }
        for (int k = 0; k <= 5; k++) {
            refused(Scene.SHEETS, STATE, "order", 9, k);
        }
    }
}
