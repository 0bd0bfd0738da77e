/** Promises 15 to 20: readings, what they leave open, and odds. */
public final class HeardTest {
    private static final String TEXT = "t12,51,82,30;c40;d71;b22;c50;d92";
    private static final Check CHECK = new Check("HeardTest");

    public static void main(String[] args) {
        reading();
        back();
        withoutReadings();
        byOneReading();
        bySeveralReadings();
        byReadingsThatAreNotSo();
        byWhatTheOfficeIsNow();
        refused();
        odds();
        CHECK.end();
    }

    private static void reading() {
        ThunderPost x = Check.officeOf(TEXT);
        CHECK.due("reading(5, 10, 100)", x.reading(5, 10, 100), ThunderPost.UNKNOWN);
        CHECK.due("reading(-1, 0, 0)", x.reading(-1, 0, 0), ThunderPost.UNKNOWN);
        CHECK.due("reading(0, 10, 0)", x.reading(0, 10, 0), ThunderPost.OUTSIDE);
        CHECK.due("reading(0, -1, 0)", x.reading(0, -1, 0), ThunderPost.OUTSIDE);
        CHECK.due("reading(0, 0, 100)", x.reading(0, 0, 100), ThunderPost.OUTSIDE);
        CHECK.due("reading(0, 0, -1)", x.reading(0, 0, -1), ThunderPost.OUTSIDE);
        CHECK.due("many(4)", x.many(4), 0);
        for (int k = 0; k < 8; k++) {
            CHECK.due("reading " + k, x.reading(k % 5, k, k * 14), k);
            CHECK.due("many(4)", x.many(4), k + 1);
        }
        CHECK.due("a ninth reading", x.reading(0, 9, 99), ThunderPost.FULL);
        CHECK.due("a ninth reading, outside", x.reading(0, 10, 99), ThunderPost.OUTSIDE);
        CHECK.due("a ninth reading of no clap", x.reading(5, 9, 99), ThunderPost.UNKNOWN);
        CHECK.due("many(4)", x.many(4), 8);
    }

    private static void back() {
        ThunderPost x = new ThunderPost();
        CHECK.due("back(0) without an office", x.back(0), 0);
        CHECK.due("back(1) without an office", x.back(1), ThunderPost.OUTSIDE);
        Check.tellOffice(x, TEXT);
        x.reading(0, 2, 6);
        x.reading(1, 0, 1);
        x.reading(2, 0, 1);
        CHECK.due("back(4)", x.back(4), ThunderPost.OUTSIDE);
        CHECK.due("back(-1)", x.back(-1), ThunderPost.OUTSIDE);
        CHECK.due("back(0)", x.back(0), 3);
        CHECK.due("back(2)", x.back(2), 1);
        CHECK.due("the first one is left", x.sizes(0), 1 << 4);
        CHECK.due("the next number", x.reading(3, 0, 5), 1);
        CHECK.due("back(2) again", x.back(2), 0);
        CHECK.due("none is left", x.sizes(0), 1022);
    }

    private static void withoutReadings() {
        ThunderPost x = Check.officeOf(TEXT);
        CHECK.due("sizes(4)", x.sizes(4), 1022);
        CHECK.due("kinds(4)", x.kinds(4), 7);
        CHECK.due("damps()", x.damps(), 15);
    }

    private static void byOneReading() {
        ThunderPost x = Check.officeOf(TEXT);
        x.reading(0, 2, 6);
        CHECK.due("sizes(0): 4 and 2", x.sizes(0), 1 << 4);
        CHECK.due("kinds(0): a clap", x.kinds(0), 1);
        CHECK.due("damps(): 1", x.damps(), 2);
        CHECK.due("sizes(1) is free", x.sizes(1), 1022);
        CHECK.due("kinds(1) is free", x.kinds(1), 7);
        x.back(1);
        x.reading(0, 0, 3);
        CHECK.due("kinds(0): a dry one", x.kinds(0), 2);
        CHECK.due("sizes(0): 3", x.sizes(0), 1 << 3);
        CHECK.due("damps(): none", x.damps(), 0);
        x.back(1);
        x.reading(0, 1, 10);
        CHECK.due("kinds(0): a booming one", x.kinds(0), 4);
        CHECK.due("sizes(0): 9", x.sizes(0), 1 << 9);
        x.back(1);
        x.reading(2, 1, 4);
        CHECK.due("sizes(2): half of it, less 1", x.sizes(2), 1 << 1);
        x.back(1);
        x.reading(2, 1, 5);
        CHECK.due("sizes(2): no half", x.sizes(2), 0);
        x.back(1);
        x.reading(4, 0, 8);
        CHECK.due("damps() at once", x.damps(), 15);
        CHECK.due("sizes(4): 9", x.sizes(4), 1 << 9);
        CHECK.due("kinds(4): a dry one", x.kinds(4), 2);
        x.back(1);
        x.reading(0, 0, 0);
        CHECK.due("sizes(0): 0 is no size", x.sizes(0), 0);
        x.back(1);
        x.reading(0, 0, 10);
        CHECK.due("sizes(0): 10 is no size", x.sizes(0), 0);
        x.back(1);
        x.reading(0, 1, 8);
        CHECK.due("damps(): 4 is none", x.damps(), 0);
        x.back(1);
        x.reading(0, 1, 7);
        CHECK.due("damps(): 3", x.damps(), 8);
        x.back(1);
        x.reading(0, 9, 4);
        CHECK.due("damps(): 0", x.damps(), 1);
    }

    private static void bySeveralReadings() {
        ThunderPost x = Check.officeOf(TEXT);
        x.reading(0, 0, 4);
        x.reading(0, 9, 13);
        x.reading(2, 9, 22);
        CHECK.due("sizes(0)", x.sizes(0), 1 << 4);
        CHECK.due("sizes(2)", x.sizes(2), 1 << 2);
        CHECK.due("kinds(2)", x.kinds(2), 4);
        CHECK.due("damps()", x.damps(), 2);
        x.reading(0, 0, 5);
        CHECK.due("sizes(0) against itself", x.sizes(0), 0);
        CHECK.due("damps() against itself", x.damps(), 0);
    }

    private static void byReadingsThatAreNotSo() {
        ThunderPost x = Check.officeOf(TEXT);
        x.reading(0, 0, 5);
        CHECK.due("sizes(0)", x.sizes(0), 1 << 5);
        CHECK.due("sizes(1): its size does not mend it", x.sizes(1), 0);
        CHECK.due("kinds(1)", x.kinds(1), 0);
        CHECK.due("damps()", x.damps(), 0);
        CHECK.due("the size is kept", x.ofClap(0, 1), 4);
        CHECK.due("the kind is kept", x.ofClap(1, 0), 1);
        CHECK.due("the damp is kept", x.many(2), 1);
    }

    private static void byWhatTheOfficeIsNow() {
        ThunderPost x = Check.officeOf(TEXT);
        x.reading(0, 2, 6);
        x.damp(2);
        CHECK.due("sizes(0)", x.sizes(0), 1 << 2);
        CHECK.due("kinds(0)", x.kinds(0), 0);
        CHECK.due("damps()", x.damps(), 2);
    }

    private static void refused() {
        ThunderPost x = new ThunderPost();
        CHECK.due("damps() without an office", x.damps(), ThunderPost.STATE);
        CHECK.due("sizes(0) without an office", x.sizes(0), ThunderPost.UNKNOWN);
        CHECK.due("kinds(0) without an office", x.kinds(0), ThunderPost.UNKNOWN);
        CHECK.due("reading without an office", x.reading(0, 0, 0), ThunderPost.UNKNOWN);
        Check.tellOffice(x, TEXT);
        CHECK.due("sizes(5)", x.sizes(5), ThunderPost.UNKNOWN);
        CHECK.due("sizes(-1)", x.sizes(-1), ThunderPost.UNKNOWN);
        CHECK.due("kinds(5)", x.kinds(5), ThunderPost.UNKNOWN);
        CHECK.due("kinds(-1)", x.kinds(-1), ThunderPost.UNKNOWN);
    }

    private static void odds() {
        odds(TEXT, 0, 0, 3, 4);
        odds(TEXT, 0, 4, 1, 2);
        odds(TEXT, 0, 5, 0, 1);
        odds("t00,90;c10", 0, 0, 1, 2);
        odds("t00,91,92,93,94,90;c10", 0, 9, 31, 32);
        odds("t00,91,92,03,94,90;c10", 0, 9, 15, 16);
        odds("t00,01,02,03,04,90;c10", 0, 9, 1, 2);
        odds("t00,05,90;c10", 0, 0, 0, 1);
        odds("t00,91,90,91;c12", 0, 0, 7, 8);
        ThunderPost x = Check.officeOf(TEXT);
        x.as(0, 2);
        CHECK.due("odds(5, 0, 0)", x.odds(5, 0, 0), ThunderPost.LOST);
        CHECK.due("odds(-1, 0, 0)", x.odds(-1, 0, 0), ThunderPost.LOST);
        CHECK.due("odds(0, 10, 0)", x.odds(0, 10, 0), ThunderPost.LOST);
        CHECK.due("odds(0, -1, 0)", x.odds(0, -1, 0), ThunderPost.LOST);
        CHECK.due("odds(0, 0, 2)", x.odds(0, 0, 2), ThunderPost.LOST);
        CHECK.due("odds(0, 0, -1)", x.odds(0, 0, -1), ThunderPost.LOST);
        CHECK.due("odds names no fault", x.fault(), 2);
    }

    private static void odds(String text, int c, int m, int upper, int lower) {
        ThunderPost x = Check.officeOf(text);
        CHECK.due(text + ": odds(" + c + ", " + m + ", 0)", x.odds(c, m, 0), upper);
        CHECK.due(text + ": odds(" + c + ", " + m + ", 1)", x.odds(c, m, 1), lower);
    }
}
