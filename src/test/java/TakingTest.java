/** Promises 9 to 12: who takes a clap, until when, what openings do, and the least harm. */
public final class TakingTest {
    private static final String TEXT = "t12,51,82,30;c40;d71;b22;c50;d92";
    private static final String PAIR = "t10,50,50;c40;b31;d20";
    private static final Check CHECK = new Check("TakingTest");

    public static void main(String[] args) {
        owner();
        ownerByChains();
        last();
        harm();
        mostHarm();
        openRefused();
        openFaults();
        ease();
        easeOfSix();
        CHECK.end();
    }

    private static void owner() {
        ThunderPost x = Check.officeOf(TEXT);
        CHECK.due("as loud as the nerve", x.owner(3, 0), 0);
        CHECK.due("louder by 1: the heir", x.owner(3, 1), 1);
        CHECK.due("as loud as the heir's nerve", x.owner(3, 3), 1);
        CHECK.due("louder than all", x.owner(3, 4), ThunderPost.NONE);
        CHECK.due("the heir's heir", x.owner(4, 0), 1);
        CHECK.due("owner(0, 9)", x.owner(0, 9), ThunderPost.NONE);
        CHECK.due("owner(0, 10)", x.owner(0, 10), ThunderPost.OUTSIDE);
        CHECK.due("owner(0, -1)", x.owner(0, -1), ThunderPost.OUTSIDE);
        CHECK.due("owner(5, 10)", x.owner(5, 10), ThunderPost.UNKNOWN);
        CHECK.due("owner(-1, 0)", x.owner(-1, 0), ThunderPost.UNKNOWN);
    }

    private static void ownerByChains() {
        CHECK.due("the fifth who is asked", Check.officeOf("t00,01,02,03,04,90;c90").owner(0, 0), 4);
        CHECK.due("their own heir", Check.officeOf("t00,00,90;c10").owner(0, 0), ThunderPost.NONE);
        CHECK.due("a ring without the bold one", Check.officeOf("t00,01,00,90;c10").owner(0, 0), ThunderPost.NONE);
        CHECK.due("no heir", Check.officeOf("t00,02,90;c10").owner(0, 0), ThunderPost.NONE);
        CHECK.due("an heir ahead of them", Check.officeOf("t00,90,00;c91").owner(0, 0), 0);
    }

    private static void last() {
        ThunderPost x = Check.officeOf(TEXT);
        int[] due = {4, 2, 2, 3, 0};
        for (int c = 0; c < 5; c++) {
            CHECK.due("last(" + c + ")", x.last(c), due[c]);
        }
        CHECK.due("last(5)", x.last(5), ThunderPost.UNKNOWN);
        CHECK.due("last(-1)", x.last(-1), ThunderPost.UNKNOWN);
        CHECK.due("last without damp", Check.officeOf("t00,90;c90").last(0), 9);
        CHECK.due("last of what nobody takes", Check.officeOf("t00,85;c90").last(0), ThunderPost.NONE);
        CHECK.due("last at once alone", Check.officeOf("t10,05;d10").last(0), 0);
    }

    private static void harm() {
        ThunderPost x = Check.officeOf(PAIR);
        open(x, new int[] {0, 0, 0}, new int[] {1, 1, 1, 0, 1});
        open(x, new int[] {2, 3, 2}, new int[] {11, 12, 1, 4, 7});
        open(x, new int[] {3, 0, 3}, new int[] {7, 9, 0, 6, 1});
        ThunderPost y = Check.officeOf("t00,30,00;c50;c50");
        open(y, new int[] {0, 1}, new int[] {4, 3, 0, 4, 0});
        open(y, new int[] {1, 1}, new int[] {7, 2, 0, 7, 0});
    }

    // due: harm to all, months, the most harmed, harm to person 0, harm to person 1
    private static void open(ThunderPost x, int[] months, int[] due) {
        int n = months.length;
        for (int lane = 0; lane <= 2; lane++) {
            Check.write(x, 1, lane, months);
            for (int what = 0; what <= 2; what++) {
                CHECK.due("open, what " + what, x.open(1, lane, 0, n, what), due[what]);
            }
            CHECK.due("open, person 0", x.open(1, lane, 0, n, 10), due[3]);
            CHECK.due("open, person 1", x.open(1, lane, 0, n, 11), due[4]);
            CHECK.due("open, person 2", x.open(1, lane, 0, n, 12), ThunderPost.NONE);
            CHECK.due("open, person 4", x.open(1, lane, 0, n, 14), ThunderPost.NONE);
        }
    }

    private static void mostHarm() {
        ThunderPost calm = Check.officeOf("t00,90,90;c10");
        Check.write(calm, 1, 2, 0);
        CHECK.due("no harm to anybody", calm.open(1, 2, 0, 1, 2), ThunderPost.NONE);
        CHECK.due("no harm at all", calm.open(1, 2, 0, 1, 0), 0);
        ThunderPost even = Check.officeOf("t00,90,00,00;c12;c11");
        Check.write(even, 1, 2, 0, 0);
        CHECK.due("of several the least", even.open(1, 2, 0, 2, 2), 1);
    }

    private static void openRefused() {
        ThunderPost x = new ThunderPost();
        Check.write(x, 1, 2, 0, 0, 0, 4, -1);
        CHECK.dueRefused("no office", x, x.open(1, 2, 0, 3, 0), ThunderPost.STATE);
        CHECK.dueRefused("no office, no months", x, x.open(1, 2, 0, 4, 0), ThunderPost.STATE);
        Check.tellOffice(x, PAIR);
        x.as(0, 2);
        CHECK.dueRefused("sheet 4", x, x.open(4, 3, 0, 3, 3), ThunderPost.UNKNOWN);
        CHECK.dueRefused("sheet -1", x, x.open(-1, 2, 0, 3, 0), ThunderPost.UNKNOWN);
        CHECK.dueRefused("lane 3", x, x.open(1, 3, 0, 3, 0), ThunderPost.OUTSIDE);
        CHECK.dueRefused("lane -1", x, x.open(1, -1, 0, 3, 0), ThunderPost.OUTSIDE);
        for (int what : new int[] {-1, 3, 9, 15, Integer.MIN_VALUE, Integer.MAX_VALUE}) {
            CHECK.dueRefused("what " + what, x, x.open(2, 2, 0, 3, what), ThunderPost.OUTSIDE);
        }
        x.as(0, 2);
        CHECK.dueRefused("too few", x, x.open(1, 2, 0, 2, 0), ThunderPost.OUTSIDE);
        CHECK.dueRefused("none", x, x.open(1, 2, 5, 0, 0), ThunderPost.OUTSIDE);
        CHECK.dueRefused("too many", x, x.open(1, 2, 0, 4, 0), ThunderPost.OUTSIDE);
        CHECK.dueRefused("month 4", x, x.open(1, 2, 1, 3, 0), ThunderPost.OUTSIDE);
        CHECK.dueRefused("month -1", x, x.open(1, 2, 2, 3, 0), ThunderPost.OUTSIDE);
        x.put(1, 3, 3);
        CHECK.dueRefused("months from cell 1 on", x, x.open(1, 2, 1, 3, 1), 9);
    }

    private static void openFaults() {
        ThunderPost x = new ThunderPost();
        Check.write(x, 1, 2, 0, 0, 0);
        for (int round = 0; round < 2; round++) {
            CHECK.dueFault("another lane", x, x.open(1, 1, 9, -1, 0), 2);
            CHECK.dueFault("nothing", x, x.open(2, 1, 9, -1, 0), 1);
            CHECK.dueFault("a length below 0", x, x.open(1, 2, 9, -1, 0), 4);
            CHECK.dueFault("beyond", x, x.open(1, 2, 1, 3, 0), 3);
            CHECK.dueFault("ahead", x, x.open(1, 2, -1, 3, 0), 3);
            CHECK.dueFault("none from beyond", x, x.open(1, 2, 4, 0, 0), 3);
            CHECK.dueFault("far beyond", x, x.open(1, 2, 1, Integer.MAX_VALUE, 0), 3);
            Check.tellOffice(x, PAIR);
        }
    }

    private static void ease() {
        ThunderPost x = Check.officeOf("t00,30,00;c50;c50");
        ease(x, 0, new int[] {4, 0, 1, -9, -9, -9, -9});
        ease(x, 1, new int[] {0, -9, -9, -9, -9, -9, -9});
        ease(Check.officeOf(TEXT), 0, new int[] {0, 1, -9, -9, 0, -9, -9});
        ease(Check.officeOf(TEXT), 2, new int[] {7, -9, -9, 0, -9, 1, -9});
        ease(Check.officeOf("t30,00;c10;d10"), 0, new int[] {1, 0, 0, -9, -9, -9, -9});
        CHECK.due("ease(0, -2)", x.ease(0, -2), ThunderPost.OUTSIDE);
        CHECK.due("ease(0, 6)", x.ease(0, 6), ThunderPost.OUTSIDE);
        CHECK.due("ease(2, 6)", x.ease(2, 6), ThunderPost.UNKNOWN);
        CHECK.due("ease(-1, 0)", x.ease(-1, 0), ThunderPost.UNKNOWN);
    }

    // Each month takes 9 of their 54: 18 at the least, and the first such row is the one that delays least.
    private static void easeOfSix() {
        ThunderPost x = Check.officeOf("t00,90;c90;c90;c90;c90;c90;c90");
        ease(x, 0, new int[] {18, 0, 0, 0, 1, 2, 3});
        x.nerve(0, 0);
        ease(x, 0, new int[] {54, 0, 0, 0, 0, 0, 0});
        x.damp(1);
        ease(x, 0, new int[] {54, 0, 0, 0, 0, 0, 0});
    }

    private static void ease(ThunderPost x, int p, int[] due) {
        for (int k = -1; k <= 5; k++) {
            CHECK.due("ease(" + p + ", " + k + ")", x.ease(p, k), due[k + 1]);
        }
    }
}
