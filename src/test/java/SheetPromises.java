/** Promises 21 to 25: sheets, their cells, and copies of them. */
final class SheetPromises extends PromiseTests {
    private static final int[] VALUES = {0, 1, -1, 127, 128, -128, -129, 255, 256, 32767, 32768, -32768, -32769,
        65535, 65536, 1 << 20, LEAST, MOST};

    SheetPromises(Check check, Document document) {
        super(check, document);
    }

    @Override void all() {
        newRow();
        sheetRefused();
        lose();
        put();
        putIsCut();
        putFaults();
        cell();
        cellFaults();
        copy();
        copyWithin();
        copyRefused();
        copyFaults();
        copyIndex();
    }

    private static ThunderPost rows() {
        ThunderPost x = new ThunderPost();
        Check.write(x, 0, 2, 1, 2, 3, 4, 5);
        Check.write(x, 1, 2, 7, 8, 9);
        Check.write(x, 2, 0, 7, 8, 9);
        return x;
    }

    private void row(ThunderPost x, int k, int lane, int... due) {
        for (int i = 0; i < due.length; i++) {
            answers(x, due[i], "cell", k, i, lane);
        }
        answers(x, LOST, "cell", k, due.length, lane);
        answers(x, INDEX, "fault");
    }

    // ---- 21

    private void newRow() {
        says(21, "SHEETS 0 .. 3 have nothing (at first), or a row of 0 .. 60 numbers (0 at first) of a LANE: "
            + "0 bytes, 1 shorts, 2 ints;");
        for (int k = 0; k <= 3; k++) {
            for (int lane = 0; lane <= 2; lane++) {
                for (int n : new int[] {0, 1, 59, 60}) {
                    ThunderPost x = new ThunderPost();
                    answers(x, 0, "lose", k);
                    answers(x, 1, "sheet", k, lane, n);
                    row(x, k, lane, new int[n]);
                    answers(x, 1, "lose", k);
                }
            }
        }
        says(21, "A SHEET gets a new row: 1.");
        ThunderPost x = rows();
        answers(x, 1, "sheet", 0, 2, 5);
        row(x, 0, 2, 0, 0, 0, 0, 0);
        x.put(0, 4, 6);
        answers(x, 1, "sheet", 0, 2, 3);
        answers(x, 1, "sheet", 0, 2, 5);
        row(x, 0, 2, 0, 0, 0, 0, 0);
        answers(x, 1, "sheet", 0, 1, 2);
        row(x, 0, 1, 0, 0);
        x.sheet(3, 2, 60);
        x.put(3, 59, 6);
        answers(x, 1, "sheet", 3, 2, 60);
        answers(x, 0, "cell", 3, 59, 2);
        row(x, 1, 2, 7, 8, 9);
        row(x, 2, 0, 7, 8, 9);
    }

    private void sheetRefused() {
        says(21, "UNKNOWN; OUTSIDE: lane, n above 60; SIZE.");
        for (int k : beyond(0, 3)) {
            refused(Scene.OFFICE, UNKNOWN, "sheet", k, 0, 1);
            refused(Scene.OFFICE, UNKNOWN, "sheet", k, 3, 61);
            refused(Scene.OFFICE, UNKNOWN, "sheet", k, 3, -1);
        }
        for (int lane : beyond(0, 2)) {
            refused(Scene.OFFICE, OUTSIDE, "sheet", 0, lane, 1);
            refused(Scene.OFFICE, OUTSIDE, "sheet", 0, lane, -1);
        }
        says(21, "n above 60;");
        refused(Scene.OFFICE, OUTSIDE, "sheet", 0, 0, 61);
        refused(Scene.OFFICE, OUTSIDE, "sheet", 3, 2, MOST);
        says(21, "4 SIZE (a length below 0).");
        for (int lane = 0; lane <= 2; lane++) {
            faulted(Scene.OFFICE, SIZE, "sheet", 0, lane, -1);
            faulted(Scene.OFFICE, SIZE, "sheet", 3, lane, LEAST);
        }
    }

    // ---- 22

    private void lose() {
        says(22, "A SHEET has nothing: 1; 0: it had nothing.");
        for (int k = 0; k <= 2; k++) {
            ThunderPost x = Scene.SHEETS.get();
            answers(x, 1, "lose", k);
            for (int lane = 0; lane <= 2; lane++) {
                answers(x, LOST, "cell", k, 0, lane);
                answers(x, NULL, "fault");
            }
            answers(x, 0, "lose", k);
            answers(x, 0, "lose", 3);
            answers(x, 1, "lose", (k + 1) % 3);
            answers(x, 1, "sheet", k, 1, 2);
            row(x, k, 1, 0, 0);
        }
        tells(Scene.SHEETS, 0, "lose", 3);
        says(22, "UNKNOWN.");
        for (int k : beyond(0, 3)) {
            refused(Scene.OFFICE, UNKNOWN, "lose", k);
        }
    }

    // ---- 23

    private void put() {
        says(23, "Cell i of a SHEET becomes v: 1.");
        for (int lane = 0; lane <= 2; lane++) {
            ThunderPost x = new ThunderPost();
            x.sheet(3, lane, 60);
            int[] due = new int[60];
            for (int i : new int[] {0, 1, 58, 59}) {
                due[i] = 7 + i;
                answers(x, 1, "put", 3, i, 7 + i);
                answers(x, 0, "fault");
            }
            row(x, 3, lane, due);
            answers(x, 1, "put", 3, 0, -7);
            answers(x, -7, "cell", 3, 0, lane);
            answers(x, 8, "cell", 3, 1, lane);
        }
    }

    private void putIsCut() {
        says(23, "what comes to a cell of it is cut to its LANE.");
        ThunderPost x = new ThunderPost();
        for (int lane = 0; lane <= 2; lane++) {
            Check.write(x, lane, lane, VALUES);
        }
        for (int i = 0; i < VALUES.length; i++) {
            answers(x, (byte) VALUES[i], "cell", 0, i, 0);
            answers(x, (short) VALUES[i], "cell", 1, i, 1);
            answers(x, VALUES[i], "cell", 2, i, 2);
        }
        answers(x, 1, "put", 0, 0, 128);
        answers(x, -128, "cell", 0, 0, 0);
        answers(x, 1, "put", 1, 0, 32768);
        answers(x, -32768, "cell", 1, 0, 1);
    }

    private void putFaults() {
        says(23, "UNKNOWN; NULL; INDEX.");
        for (int k : beyond(0, 3)) {
            refused(Scene.OFFICE, UNKNOWN, "put", k, 0, 9);
            refused(Scene.OFFICE, UNKNOWN, "put", k, -1, 9);
        }
        faulted(Scene.OFFICE, NULL, "put", 3, 0, 9);
        faulted(Scene.OFFICE, NULL, "put", 3, -1, 9);
        faulted(Scene.OFFICE, NULL, "put", 3, MOST, 9);
        for (int i : beyond(0, Scene.ROW.length - 1)) {
            faulted(Scene.OFFICE, INDEX, "put", 1, i, 9);
            faulted(Scene.OFFICE, INDEX, "put", 2, i, 9);
        }
        for (int i : beyond(0, -1)) {
            faulted(Scene.SHEETS, INDEX, "put", 0, i, 9);
        }
    }

    // ---- 24

    private void cell() {
        says(24, "Cell i of what a SHEET has, taken as a row of a LANE.");
        tells(Scene.OFFICE, 't', "cell", 0, 0, 0);
        tells(Scene.OFFICE, '2', "cell", 0, Scene.CODES - 1, 0);
        tells(Scene.OFFICE, 4, "cell", 1, 5, 1);
        tells(Scene.OFFICE, -1, "cell", 2, 6, 2);
        says(24, "LOST: UNKNOWN, OUTSIDE: lane;");
        for (int k : beyond(0, 3)) {
            refused(Scene.OFFICE, LOST, "cell", k, 0, 0);
            refused(Scene.OFFICE, LOST, "cell", k, -1, 3);
        }
        for (int lane : beyond(0, 2)) {
            refused(Scene.OFFICE, LOST, "cell", 0, 0, lane);
            refused(Scene.OFFICE, LOST, "cell", 3, -1, lane);
        }
    }

    private void cellFaults() {
        says(24, "FAULTS CAST (nothing is no CAST), NULL, INDEX.");
        for (int k = 0; k <= 2; k++) {
            for (int more = 1; more <= 2; more++) {
                faulted(Scene.OFFICE, CAST, "cell", k, 0, (k + more) % 3);
                faulted(Scene.OFFICE, CAST, "cell", k, -1, (k + more) % 3);
                faulted(Scene.SHEETS, CAST, "cell", k, MOST, (k + more) % 3);
            }
            faulted(Scene.OFFICE, NULL, "cell", 3, 0, k);
            faulted(Scene.OFFICE, NULL, "cell", 3, -1, k);
        }
        for (int i : beyond(0, Scene.ROW.length - 1)) {
            faulted(Scene.OFFICE, INDEX, "cell", 1, i, 1);
            faulted(Scene.OFFICE, INDEX, "cell", 2, i, 2);
        }
        for (int i : beyond(0, -1)) {
            faulted(Scene.SHEETS, INDEX, "cell", 0, i, 0);
        }
        says(24, "it answers -10 less it (LOST, where a long is answered, as for refusals) and changes nothing;");
        faulted(Scene.HEARD, CAST, "cell", 0, 0, 2);
        faulted(Scene.HEARD, NULL, "cell", 3, 0, 2);
        refused(Scene.HEARD, LOST, "cell", 4, 0, 2);
        refused(Scene.HEARD, LOST, "odds", 5, 0, 0);
    }

    // ---- 25

    private void copy() {
        says(25, "n cells of a SHEET from i on go to another one");
        ThunderPost x = rows();
        answers(x, 2, "copy", 0, 1, 1, 0, 2);
        answers(x, 0, "fault");
        row(x, 1, 2, 2, 3, 9);
        row(x, 0, 2, 1, 2, 3, 4, 5);
        answers(x, 3, "copy", 0, 2, 1, 0, 3);
        row(x, 1, 2, 3, 4, 5);
        answers(x, 3, "copy", 1, 0, 0, 2, 3);
        answers(x, 1, "copy", 0, 0, 1, 2, 1);
        row(x, 1, 2, 3, 4, 1);
        says(25, "from j on, as they were: n.");
        for (int i : new int[] {0, 5}) {
            for (int j : new int[] {0, 3}) {
                tells(SheetPromises::rows, 0, "copy", 0, i, 1, j, 0);
            }
        }
        for (int lane = 0; lane <= 2; lane++) {
            ThunderPost y = withRow(Scene.NEW, 3, lane, VALUES);
            y.sheet(0, lane, VALUES.length);
            answers(y, VALUES.length, "copy", 3, 0, 0, 0, VALUES.length);
            for (int i = 0; i < VALUES.length; i++) {
                answers(y, y.cell(3, i, lane), "cell", 0, i, lane);
            }
        }
    }

    private void copyWithin() {
        says(25, "(perhaps the same) from j on, as they were: n.");
        ThunderPost x = rows();
        answers(x, 4, "copy", 0, 0, 0, 1, 4);
        row(x, 0, 2, 1, 1, 2, 3, 4);
        x = rows();
        answers(x, 4, "copy", 0, 1, 0, 0, 4);
        row(x, 0, 2, 2, 3, 4, 5, 5);
        tells(SheetPromises::rows, 5, "copy", 0, 0, 0, 0, 5);
        tells(SheetPromises::rows, 0, "copy", 0, 5, 0, 5, 0);
    }

    private void copyRefused() {
        says(25, "UNKNOWN;");
        for (int k : beyond(0, 3)) {
            refused(SheetPromises::rows, UNKNOWN, "copy", k, 0, 1, 0, 1);
            refused(SheetPromises::rows, UNKNOWN, "copy", 0, 0, k, 0, 1);
            refused(SheetPromises::rows, UNKNOWN, "copy", k, -1, 3, -1, -1);
            refused(SheetPromises::rows, UNKNOWN, "copy", 3, -1, k, -1, -1);
        }
    }

    private void copyFaults() {
        says(25, "FAULTS NULL (the first, the other),");
        faulted(SheetPromises::rows, NULL, "copy", 3, 0, 0, 0, 1);
        faulted(SheetPromises::rows, NULL, "copy", 0, 0, 3, 0, 1);
        faulted(SheetPromises::rows, NULL, "copy", 3, 0, 3, 0, 0);
        faulted(SheetPromises::rows, NULL, "copy", 3, -1, 2, -1, -1);
        faulted(SheetPromises::rows, NULL, "copy", 2, -1, 3, -1, -1);
        says(25, "CAST (unlike LANES),");
        for (int k = 0; k <= 2; k++) {
            for (int more = 1; more <= 2; more++) {
                faulted(Scene.OFFICE, CAST, "copy", k, 0, (k + more) % 3, 0, 1);
                faulted(Scene.OFFICE, CAST, "copy", k, 0, (k + more) % 3, 0, 0);
                faulted(Scene.OFFICE, CAST, "copy", k, -1, (k + more) % 3, -1, -1);
            }
        }
        says(25, "to another one");
        tells(() -> withRow(Scene.OFFICE, 3, 0, 5, 6), 0, "copy", 0, 0, 3, 0, 0);
    }

    private void copyIndex() {
        says(25, "INDEX: i, j, n below 0 or beyond.");
        for (int n : new int[] {-1, 4, 6, LEAST, MOST}) {
            faulted(SheetPromises::rows, INDEX, "copy", 0, 0, 1, 0, n);
        }
        for (int i : new int[] {-1, 3, 5, LEAST, MOST}) {
            faulted(SheetPromises::rows, INDEX, "copy", 0, i, 1, 0, 3);
        }
        for (int j : new int[] {-1, 1, 3, LEAST, MOST}) {
            faulted(SheetPromises::rows, INDEX, "copy", 0, 0, 1, j, 3);
        }
        faulted(SheetPromises::rows, INDEX, "copy", 1, 0, 0, 0, 4);
        faulted(SheetPromises::rows, INDEX, "copy", 1, MOST, 0, MOST, MOST);
        says(25, "3 INDEX (of cells from i on also where i is not 0 .. how many there are, if none of them is taken, too),");
        for (int i : beyond(0, 5)) {
            faulted(SheetPromises::rows, INDEX, "copy", 0, i, 1, 0, 0);
        }
        for (int j : beyond(0, 3)) {
            faulted(SheetPromises::rows, INDEX, "copy", 0, 0, 1, j, 0);
        }
        faulted(SheetPromises::rows, INDEX, "copy", 0, 6, 0, 0, 0);
    }
}
