/** Promises 21 to 25: sheets, their cells, and copies of them. */
public final class SheetTest {
    private static final int[] EXTREMES = {Integer.MIN_VALUE, -1, Integer.MAX_VALUE};
    private static final Check CHECK = new Check("SheetTest");

    public static void main(String[] args) {
        newRows();
        lost();
        put();
        lanes();
        cell();
        copyOver();
        copyWithin();
        copyFaults();
        CHECK.end();
    }

    private static void newRows() {
        ThunderPost x = new ThunderPost();
        CHECK.dueRefused("sheet(4, 3, 61)", x, x.sheet(4, 3, 61), ThunderPost.UNKNOWN);
        CHECK.dueRefused("sheet(-1, 0, 1)", x, x.sheet(-1, 0, 1), ThunderPost.UNKNOWN);
        CHECK.dueRefused("sheet(0, 3, -1)", x, x.sheet(0, 3, -1), ThunderPost.OUTSIDE);
        CHECK.dueRefused("sheet(0, -1, 1)", x, x.sheet(0, -1, 1), ThunderPost.OUTSIDE);
        CHECK.dueRefused("sheet(0, 0, 61)", x, x.sheet(0, 0, 61), ThunderPost.OUTSIDE);
        CHECK.dueFault("sheet(0, 0, -1)", x, x.sheet(0, 0, -1), 4);
        CHECK.dueFault("sheet(0, 0, least)", x, x.sheet(0, 0, Integer.MIN_VALUE), 4);
        CHECK.due("the sheet has nothing still", x.lose(0), 0);
        CHECK.dueRefused("sheet(0, 0, 60)", x, x.sheet(0, 0, 60), 1);
        CHECK.dueRefused("put(0, 59, 7)", x, x.put(0, 59, 7), 1);
        CHECK.dueFault("a length below 0 for a row", x, x.sheet(0, 1, -1), 4);
        CHECK.due("the row is kept", x.cell(0, 59, 0), 7);
        CHECK.due("a row of another lane", x.sheet(0, 2, 60), 1);
        CHECK.due("it is new", x.cell(0, 59, 2), 0);
        CHECK.due("a row of no cells", x.sheet(0, 2, 0), 1);
        CHECK.dueFault("it has none", x, x.put(0, 0, 7), 3);
        CHECK.due("it is there", x.lose(0), 1);
        x.sheet(3, 1, 2);
        CHECK.due("sheet 3", x.cell(3, 1, 1), 0);
    }

    private static void lost() {
        ThunderPost x = new ThunderPost();
        x.sheet(0, 0, 2);
        x.put(0, 0, 9);
        x.put(0, 2, 9);
        CHECK.due("lose(0)", x.lose(0), 1);
        CHECK.due("lose names no fault", x.fault(), 3);
        CHECK.due("lose(0) again", x.lose(0), 0);
        CHECK.due("lose(4)", x.lose(4), ThunderPost.UNKNOWN);
        CHECK.due("lose(-1)", x.lose(-1), ThunderPost.UNKNOWN);
        CHECK.dueFault("put on nothing", x, x.put(0, 0, 9), 1);
        x.sheet(0, 0, 2);
        CHECK.due("the new row is new", x.cell(0, 0, 0), 0);
    }

    private static void put() {
        ThunderPost x = new ThunderPost();
        CHECK.dueFault("put on nothing", x, x.put(0, -1, 9), 1);
        CHECK.dueRefused("put(4, 0, 9)", x, x.put(4, 0, 9), ThunderPost.UNKNOWN);
        CHECK.dueRefused("put(-1, 0, 9)", x, x.put(-1, 0, 9), ThunderPost.UNKNOWN);
        x.sheet(0, 2, 3);
        CHECK.dueRefused("put(0, 2, 9)", x, x.put(0, 2, 9), 1);
        CHECK.dueFault("put(0, 3, 9)", x, x.put(0, 3, 9), 3);
        for (int i : EXTREMES) {
            CHECK.dueFault("put(0, " + i + ", 9)", x, x.put(0, i, 9), 3);
        }
        CHECK.dueRefused("put(0, 0, 8)", x, x.put(0, 0, 8), 1);
        CHECK.due("cell 0", x.cell(0, 0, 2), 8);
        CHECK.due("cell 1", x.cell(0, 1, 2), 0);
        CHECK.due("cell 2", x.cell(0, 2, 2), 9);
    }

    private static void lanes() {
        int[] values = {0, 127, 128, -128, -129, 255, 32767, 32768, -32768, -32769, 65536, 1 << 20,
            Integer.MIN_VALUE, Integer.MAX_VALUE};
        ThunderPost x = new ThunderPost();
        for (int lane = 0; lane <= 2; lane++) {
            Check.write(x, lane, lane, values);
        }
        for (int i = 0; i < values.length; i++) {
            CHECK.due("a byte of " + values[i], x.cell(0, i, 0), (byte) values[i]);
            CHECK.due("a short of " + values[i], x.cell(1, i, 1), (short) values[i]);
            CHECK.due("an int of " + values[i], x.cell(2, i, 2), values[i]);
        }
    }

    private static void cell() {
        ThunderPost x = new ThunderPost();
        x.sheet(0, 1, 2);
        x.put(0, 1, -5);
        lostCell(x, x.cell(4, 0, 3), 0);
        lostCell(x, x.cell(-1, 0, 1), 0);
        lostCell(x, x.cell(0, 0, 3), 0);
        lostCell(x, x.cell(0, 0, -1), 0);
        lostCell(x, x.cell(0, 9, 2), 2);
        lostCell(x, x.cell(0, 9, 0), 2);
        lostCell(x, x.cell(1, 9, 2), 1);
        lostCell(x, x.cell(0, 2, 1), 3);
        for (int i : EXTREMES) {
            lostCell(x, x.cell(0, i, 1), 3);
        }
        lostCell(x, x.cell(0, 0, 3), 0);
        x.cell(0, 2, 1);
        CHECK.due("cell(0, 1, 1)", x.cell(0, 1, 1), -5);
        CHECK.due("fault() behind a cell", x.fault(), 0);
    }

    private static void lostCell(ThunderPost x, long got, int fault) {
        CHECK.due("a cell that is lost", got, ThunderPost.LOST);
        CHECK.due("fault() behind it", x.fault(), fault);
    }

    private static void copyOver() {
        ThunderPost x = new ThunderPost();
        Check.write(x, 0, 1, 1, 2, 3, 4);
        Check.write(x, 3, 1, 9, 9, 9);
        CHECK.dueRefused("copy(0, 1, 3, 0, 2)", x, x.copy(0, 1, 3, 0, 2), 2);
        row(x, 3, 1, 2, 3, 9);
        row(x, 0, 1, 1, 2, 3, 4);
        CHECK.dueRefused("copy(0, 1, 3, 0, 3)", x, x.copy(0, 1, 3, 0, 3), 3);
        row(x, 3, 1, 2, 3, 4);
        CHECK.dueRefused("no cells", x, x.copy(0, 4, 3, 3, 0), 0);
        row(x, 3, 1, 2, 3, 4);
    }

    private static void copyWithin() {
        ThunderPost x = new ThunderPost();
        Check.write(x, 0, 2, 1, 2, 3, 4, 5);
        CHECK.due("up", x.copy(0, 0, 0, 1, 4), 4);
        row(x, 0, 2, 1, 1, 2, 3, 4);
        Check.write(x, 0, 2, 1, 2, 3, 4, 5);
        CHECK.due("down", x.copy(0, 1, 0, 0, 4), 4);
        row(x, 0, 2, 2, 3, 4, 5, 5);
        CHECK.due("onto itself", x.copy(0, 0, 0, 0, 5), 5);
        row(x, 0, 2, 2, 3, 4, 5, 5);
    }

    private static void copyFaults() {
        ThunderPost x = new ThunderPost();
        Check.write(x, 0, 2, 1, 2, 3);
        Check.write(x, 1, 2, 7, 8);
        Check.write(x, 2, 0, 7, 8);
        CHECK.dueRefused("copy from sheet 4", x, x.copy(4, 0, 0, 0, 1), ThunderPost.UNKNOWN);
        CHECK.dueRefused("copy to sheet 4", x, x.copy(3, 0, 4, 0, 1), ThunderPost.UNKNOWN);
        CHECK.dueRefused("copy to sheet -1", x, x.copy(0, 0, -1, 0, 1), ThunderPost.UNKNOWN);
        CHECK.dueFault("copy from nothing", x, x.copy(3, -1, 0, 0, 1), 1);
        CHECK.dueFault("copy to nothing", x, x.copy(0, -1, 3, 0, 1), 1);
        CHECK.dueFault("copy nothing to nothing", x, x.copy(3, 0, 3, 0, 0), 1);
        CHECK.dueFault("copy to another lane", x, x.copy(0, -1, 2, 0, -1), 2);
        CHECK.dueFault("no cells to another lane", x, x.copy(2, 0, 0, 0, 0), 2);
        CHECK.dueFault("n below 0", x, x.copy(0, 0, 1, 0, -1), 3);
        CHECK.dueFault("i below 0", x, x.copy(0, -1, 1, 0, 1), 3);
        CHECK.dueFault("j below 0", x, x.copy(0, 0, 1, -1, 1), 3);
        CHECK.dueFault("i beyond", x, x.copy(0, 2, 1, 0, 2), 3);
        CHECK.dueFault("j beyond", x, x.copy(0, 0, 1, 1, 2), 3);
        CHECK.dueFault("i beyond, no cells", x, x.copy(0, 4, 1, 0, 0), 3);
        CHECK.dueFault("j beyond, no cells", x, x.copy(0, 0, 1, 3, 0), 3);
        CHECK.dueFault("n far beyond", x, x.copy(0, 1, 1, 1, Integer.MAX_VALUE), 3);
        CHECK.dueFault("i far beyond", x, x.copy(0, Integer.MAX_VALUE, 1, 0, 1), 3);
        row(x, 0, 2, 1, 2, 3);
        row(x, 1, 2, 7, 8);
        row(x, 2, 0, 7, 8);
    }

    private static void row(ThunderPost x, int k, int lane, int... due) {
        for (int i = 0; i < due.length; i++) {
            CHECK.due("cell " + i + " of sheet " + k, x.cell(k, i, lane), due[i]);
        }
    }
}
