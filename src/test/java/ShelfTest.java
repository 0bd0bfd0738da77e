/** Promises 13 and 14: the first wrong clap of a shelf, and an order in which none is wrong. */
public final class ShelfTest {
    private static final String TEXT = "t12,51,82,30;c40;d71;b22;c50;d92";
    private static final Check CHECK = new Check("ShelfTest");

    public static void main(String[] args) {
        firstWrong();
        shelfRefused();
        shelfFaults();
        shelfWithoutOffice();
        order();
        orderRefused();
        CHECK.end();
    }

    // At once the claps are loud by 4, 6, 4, 5, 8; behind 3 months by 7, 9, 10, 8, 11; the gap is 2.
    private static void firstWrong() {
        wrong(0, ThunderPost.NONE);
        wrong(0, ThunderPost.NONE, 3);
        wrong(0, ThunderPost.NONE, 0, 1);
        wrong(0, ThunderPost.NONE, 1, 0);
        wrong(0, 1, 0, 3);
        wrong(0, 1, 3, 0);
        wrong(0, 1, 0, 2);
        wrong(0, 2, 0, 1, 0);
        wrong(0, 1, 4, 4);
        wrong(3, ThunderPost.NONE, 0, 1, 4, 3, 2);
        wrong(3, 4, 0, 1, 4, 3, 1);
        wrong(3, 3, 0, 1, 4, 2, 3);
        wrong(0, 5, 0, 1, 2, 4, 3, 0, 0, 0, 0, 0, 0, 0, 0, 0, 0, 0, 0, 0, 0, 0);
    }

    private static void wrong(int m, int due, int... row) {
        ThunderPost x = Check.officeOf(TEXT);
        int[] framed = new int[row.length + 4];
        System.arraycopy(row, 0, framed, 2, row.length);
        for (int lane = 0; lane <= 2; lane++) {
            Check.write(x, 1, lane, row);
            CHECK.due("shelf of " + row.length, x.shelf(m, 1, lane, 0, row.length), due);
            Check.write(x, 2, lane, framed);
            CHECK.due("shelf from cell 2 on", x.shelf(m, 2, lane, 2, row.length), due);
        }
    }

    private static void shelfRefused() {
        ThunderPost x = Check.officeOf(TEXT);
        Check.write(x, 1, 2, 0, 0, 5, -1, 0);
        x.as(0, 2);
        CHECK.dueRefused("sheet 4", x, x.shelf(10, 4, 3, 0, 21), ThunderPost.UNKNOWN);
        CHECK.dueRefused("sheet -1", x, x.shelf(0, -1, 2, 0, 1), ThunderPost.UNKNOWN);
        CHECK.dueRefused("month 10", x, x.shelf(10, 2, 2, 0, 1), ThunderPost.OUTSIDE);
        CHECK.dueRefused("month -1", x, x.shelf(-1, 1, 2, 0, 1), ThunderPost.OUTSIDE);
        CHECK.dueRefused("lane 3", x, x.shelf(0, 1, 3, 0, 1), ThunderPost.OUTSIDE);
        CHECK.dueRefused("lane -1", x, x.shelf(0, 1, -1, 0, 1), ThunderPost.OUTSIDE);
        CHECK.dueRefused("21 cells", x, x.shelf(0, 2, 2, 0, 21), ThunderPost.OUTSIDE);
        CHECK.dueRefused("-1 cells", x, x.shelf(0, 1, 2, 0, -1), ThunderPost.OUTSIDE);
        x.as(0, 2);
        CHECK.dueRefused("a cell 5", x, x.shelf(0, 1, 2, 2, 1), ThunderPost.UNKNOWN);
        CHECK.dueRefused("a cell -1", x, x.shelf(0, 1, 2, 3, 1), ThunderPost.UNKNOWN);
        CHECK.dueRefused("no clap behind a wrong one", x, x.shelf(0, 1, 2, 0, 3), ThunderPost.UNKNOWN);
        x.as(0, 2);
        CHECK.dueRefused("a wrong one", x, x.shelf(0, 1, 2, 0, 2), 1);
    }

    private static void shelfFaults() {
        ThunderPost x = Check.officeOf(TEXT);
        Check.write(x, 1, 2, 0, 1);
        CHECK.dueFault("another lane", x, x.shelf(0, 1, 0, 9, 1), 2);
        CHECK.dueFault("nothing", x, x.shelf(0, 2, 0, 9, 1), 1);
        CHECK.dueFault("beyond", x, x.shelf(0, 1, 2, 1, 2), 3);
        CHECK.dueFault("ahead", x, x.shelf(0, 1, 2, -1, 2), 3);
        CHECK.dueFault("none from beyond", x, x.shelf(0, 1, 2, 3, 0), 3);
        CHECK.dueFault("none from ahead", x, x.shelf(0, 1, 2, -1, 0), 3);
        CHECK.dueFault("far beyond", x, x.shelf(0, 1, 2, Integer.MAX_VALUE, 2), 3);
        CHECK.dueRefused("none from the end on", x, x.shelf(0, 1, 2, 2, 0), ThunderPost.NONE);
    }

    private static void shelfWithoutOffice() {
        ThunderPost x = new ThunderPost();
        Check.write(x, 1, 2, 0);
        CHECK.due("an empty shelf without an office", x.shelf(0, 1, 2, 0, 0), ThunderPost.NONE);
        CHECK.due("a clap without an office", x.shelf(0, 1, 2, 0, 1), ThunderPost.UNKNOWN);
    }

    private static void order() {
        ordered(TEXT, 0, 0, 1, 2, 4, 3, -9);
        ordered(TEXT, 2, 1, 0, 2, 4, 3, -9);
        ordered("t02,90;c10;c20;c30;c40;c50;c60", 0, 0, 2, 4, 1, 3, 5);
        ordered("t03,90;c10;c20;c30;c40;c50;c60", 9, 2, 5, 1, 4, 0, 3);
        ordered("t04,90;c10;c20;c30;c40;c50;c60", 0, -9, -9, -9, -9, -9, -9);
        ordered("t00,90;c10;c10;c10;c10;c10;c10", 0, 0, 1, 2, 3, 4, 5);
        ordered("t01,90;c10;c10", 0, -9, -9, -9, -9, -9, -9);
        ordered("t09,90;c10", 0, 0, -9, -9, -9, -9, -9);
    }

    private static void ordered(String text, int m, int... due) {
        ThunderPost x = Check.officeOf(text);
        for (int k = 0; k <= 5; k++) {
            CHECK.due(text + ": order(" + m + ", " + k + ")", x.order(m, k), due[k]);
        }
    }

    private static void orderRefused() {
        ThunderPost x = new ThunderPost();
        CHECK.due("order(10, 0) without an office", x.order(10, 0), ThunderPost.OUTSIDE);
        CHECK.due("order(0, 0) without an office", x.order(0, 0), ThunderPost.STATE);
        Check.tellOffice(x, TEXT);
        CHECK.due("order(10, 0)", x.order(10, 0), ThunderPost.OUTSIDE);
        CHECK.due("order(-1, 0)", x.order(-1, 0), ThunderPost.OUTSIDE);
        CHECK.due("order(0, 6)", x.order(0, 6), ThunderPost.OUTSIDE);
        CHECK.due("order(0, -1)", x.order(0, -1), ThunderPost.OUTSIDE);
    }
}
