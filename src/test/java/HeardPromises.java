import java.util.function.Supplier;

/** Promises 15 to 20: readings, what they leave open, and odds. */
final class HeardPromises extends PromiseTests {
    private static final int ALL_SIZES = 1022, ALL_KINDS = 7, ALL_DAMPS = 15;

    HeardPromises(Check check, Document document) {
        super(check, document);
    }

    @Override void all() {
        readingNumbers();
        readingFull();
        readingRefused();
        back();
        sizes();
        sizesInPlaceAlone();
        kinds();
        damps();
        setsAreAsNow();
        setsRefused();
        odds();
        oddsInLeastTerms();
        oddsRefused();
    }

    // ---- 15

    private void readingNumbers() {
        says(15, "READINGS, 8 at most, numbered by how many there are: behind m MONTHS a CLAP was LOUD by so much.");
        ThunderPost x = Check.officeOf(Scene.TEXT);
        for (int k = 0; k < 8; k++) {
            answers(x, k, "reading", k % 5, k, k * 14);
            answers(x, k + 1, "many", 4);
        }
        says(15, "A READING: its number.");
        answers(x, 5, "back", 3);
        answers(x, 5, "reading", 0, 0, 0);
        answers(x, 6, "reading", 0, 0, 0);
        answers(x, 0, "back", 7);
        answers(x, 0, "reading", 4, 9, 99);
    }

    private void readingFull() {
        says(15, "REFUSALS, in the order in which a call's line tells them: UNKNOWN (there is no such PERSON, CLAP, "
            + "SHEET, place of a row), OUTSIDE (another number is not as told), STATE (as told), FULL;");
        refused(Scene.HEARD, UNKNOWN, "reading", 5, 10, 100);
        refused(Scene.HEARD, UNKNOWN, "reading", -1, -1, -1);
        refused(Scene.HEARD, OUTSIDE, "reading", 0, 10, 0);
        refused(Scene.HEARD, OUTSIDE, "reading", 0, 0, 100);
        says(15, "FULL.");
        for (int c = 0; c < Scene.CLAPS; c++) {
            refused(Scene.HEARD, FULL, "reading", c, 0, 0);
            refused(Scene.HEARD, FULL, "reading", c, 9, 99);
        }
        ThunderPost x = Scene.HEARD.get();
        answers(x, FULL, "reading", 0, 2, 7);
        answers(x, FULL, "reading", 0, 2, 7);
        answers(x, 7, "back", 1);
        answers(x, 7, "reading", 0, 2, 6);
        answers(x, FULL, "reading", 0, 2, 6);
    }

    private void readingRefused() {
        says(15, "UNKNOWN: CLAP;");
        for (int c : beyond(0, Scene.CLAPS - 1)) {
            refused(Scene.OFFICE, UNKNOWN, "reading", c, 0, 0);
            refused(Scene.OFFICE, UNKNOWN, "reading", c, 10, 100);
        }
        refused(Scene.SHEETS, UNKNOWN, "reading", 0, 0, 0);
        says(15, "OUTSIDE: m (0 .. 9), v (0 .. 99);");
        for (int m : beyond(0, 9)) {
            refused(Scene.OFFICE, OUTSIDE, "reading", 0, m, 0);
        }
        for (int v : beyond(0, 99)) {
            refused(Scene.OFFICE, OUTSIDE, "reading", 0, 0, v);
        }
        for (int m : new int[] {0, 9}) {
            for (int v : new int[] {0, 99}) {
                answers(Scene.OFFICE.get(), 2, "reading", 0, m, v);
            }
        }
    }

    // ---- 16

    private void back() {
        says(16, "The last k READINGS (0 .. as many as there are) are taken back: how many are left.");
        for (int k = 0; k <= 8; k++) {
            ThunderPost x = Scene.HEARD.get();
            answers(x, 8 - k, "back", k);
            answers(x, 8 - k, "many", 4);
            answers(x, k < 8 ? 1 << 4 : ALL_SIZES, "sizes", 0);
            answers(x, k < 7 ? 1 << 2 : ALL_SIZES, "sizes", 2);
            answers(x, k < 6 ? 1 << 7 : ALL_SIZES, "sizes", 1);
        }
        tells(Scene.NEW, 0, "back", 0);
        tells(Scene.HEARD, 8, "back", 0);
        says(16, "OUTSIDE.");
        for (int k : beyond(0, 2)) {
            refused(Scene.OFFICE, OUTSIDE, "back", k);
        }
        for (int k : beyond(0, 8)) {
            refused(Scene.HEARD, OUTSIDE, "back", k);
        }
        for (int k : beyond(0, 0)) {
            refused(Scene.NEW, OUTSIDE, "back", k);
            refused(() -> Check.officeOf(Scene.TEXT), OUTSIDE, "back", k);
        }
    }

    // ---- 17 to 19

    /** An object of a text, with readings: a clap, months, how loud. */
    private static Supplier<ThunderPost> heard(String text, int... readings) {
        return () -> {
            ThunderPost x = Check.officeOf(text);
            for (int k = 0; k + 2 < readings.length; k += 3) {
                x.reading(readings[k], readings[k + 1], readings[k + 2]);
            }
            return x;
        };
    }

    private void sizes() {
        says(17, "SIZES of a CLAP: 1 .. 9, as a set;");
        tells(heard(Scene.TEXT), ALL_SIZES, "sizes", 0);
        for (int v = 0; v <= 20; v++) {
            tells(heard("t00,00;c50", 0, 0, v), v >= 1 && v <= 9 ? 1 << v : 0, "sizes", 0);
            tells(heard("t00,00;d50", 0, 0, v), v >= 0 && v <= 8 ? 1 << v + 1 : 0, "sizes", 0);
            tells(heard("t00,00;b50", 0, 0, v), v >= 2 && v <= 18 && v % 2 == 0 ? 1 << v / 2 : 0, "sizes", 0);
        }
        says(17, "SIZES, as a set.");
        tells(heard("t30,00;c10", 0, 9, 36), 1 << 9, "sizes", 0);
        tells(heard("t30,00;b10", 0, 9, 56), 1 << 1, "sizes", 0);
        tells(heard("t30,00;b10", 0, 9, 72, 0, 0, 18), 1 << 9, "sizes", 0);
        tells(heard("t30,00;b10", 0, 9, 72, 0, 0, 16), 0, "sizes", 0);
    }

    private void sizesInPlaceAlone() {
        says(17, "All that follows: in place of what it is alone, by which all READINGS are so:");
        tells(heard("t10,00;c10;c20", 1, 3, 5), ALL_SIZES, "sizes", 0);
        tells(heard("t10,00;c10;c20", 1, 3, 6), 0, "sizes", 0);
        tells(heard("t10,00;c10;c20", 1, 3, 6), 1 << 3, "sizes", 1);
        tells(heard("t10,00;c10;c20", 1, 3, 6, 0, 0, 1), 1 << 3, "sizes", 1);
        tells(heard("t10,00;c10;c20", 1, 3, 6, 0, 0, 2), 0, "sizes", 1);
        tells(heard("t10,00;c10;c20", 1, 3, 6, 0, 0, 2), 0, "sizes", 0);
        tells(heard("t10,00;c10;c20", 0, 0, 1, 0, 0, 1, 0, 0, 1, 0, 0, 1, 0, 0, 1, 0, 0, 1, 0, 0, 1, 1, 0, 3),
            1 << 3, "sizes", 1);
    }

    private void kinds() {
        says(18, "KINDS of a CLAP: 0 .. 2, as a set;");
        tells(heard(Scene.TEXT), ALL_KINDS, "kinds", 0);
        for (int kind = 0; kind <= 2; kind++) {
            String text = "t10,00;" + "cdb".charAt(kind) + "50";
            for (int v = 0; v <= 20; v++) {
                int due = v == 5 ? 1 : v == 4 ? 2 : v == 10 ? 4 : 0;
                tells(heard(text, 0, 0, v), due, "kinds", 0);
            }
        }
        says(18, "KINDS, as a set.");
        tells(heard("t10,00;c50", 0, 9, 28), 4, "kinds", 0);
        tells(heard("t10,00;c50", 0, 9, 28, 0, 0, 5), 0, "kinds", 0);
        says(18, "in place of what it is alone, by which all READINGS are so:");
        tells(heard("t10,00;c10;d20", 1, 0, 1), ALL_KINDS, "kinds", 0);
        tells(heard("t10,00;c10;d20", 1, 0, 2), 0, "kinds", 0);
        tells(heard("t10,00;c10;d20", 1, 0, 2), 1, "kinds", 1);
    }

    private void damps() {
        says(19, "DAMPS: 0 .. 3, as a set.");
        tells(heard(Scene.TEXT), ALL_DAMPS, "damps");
        tells(heard("t20,00;c50", 0, 0, 5), ALL_DAMPS, "damps");
        for (int v = 0; v <= 40; v++) {
            boolean fits = v >= 5 && v <= 32 && (v - 5) % 9 == 0;
            tells(heard("t20,00;c50", 0, 9, v), fits ? 1 << (v - 5) / 9 : 0, "damps");
        }
        says(19, "DAMPS, as a set.");
        tells(heard("t20,00;c50", 0, 1, 9), 0, "damps");
        tells(heard("t20,00;c50;b10", 0, 1, 8, 1, 1, 8), 8, "damps");
        tells(heard("t20,00;c50;b10", 0, 1, 8, 1, 1, 6), 0, "damps");
        tells(heard("t20,00;c50;b10", 0, 0, 6), 0, "damps");
    }

    private void setsAreAsNow() {
        says(17, "in place of what it is alone,");
        ThunderPost x = heard(Scene.TEXT, 0, 2, 6).get();
        x.damp(2);
        answers(x, 1 << 2, "sizes", 0);
        answers(x, 0, "kinds", 0);
        answers(x, 2, "damps");
    }

    private void setsRefused() {
        for (int promise = 17; promise <= 18; promise++) {
            says(promise, "UNKNOWN.");
            String call = promise == 17 ? "sizes" : "kinds";
            for (int c : beyond(0, Scene.CLAPS - 1)) {
                refused(Scene.OFFICE, UNKNOWN, call, c);
            }
            refused(Scene.SHEETS, UNKNOWN, call, 0);
        }
        says(19, "STATE: there is no OFFICE.");
        refused(Scene.NEW, STATE, "damps");
        refused(Scene.SHEETS, STATE, "damps");
    }

    // ---- 20

    private void share(String text, int m, int upper, int lower) {
        Supplier<ThunderPost> scene = () -> Check.officeOf(text);
        tells(scene, upper, "odds", 0, m, 0);
        tells(scene, lower, "odds", 0, m, 1);
    }

    private void odds() {
        says(20, "ODDS of a CLAP behind m MONTHS: if each PERSON is at home, or away and REFUSES all, "
            + "all such sets of PEOPLE alike: the share by which it has an OWNER.");
        share("t00,95;c10", 0, 1, 2);
        share("t00,91,95;c10", 0, 3, 4);
        share("t00,91,92,95;c10", 0, 7, 8);
        share("t00,91,92,93,95;c10", 0, 15, 16);
        share("t00,91,92,93,94,95;c10", 9, 31, 32);
        share("t00,01,02,93,94,95;c10", 0, 7, 8);
        share("t00,91,90;c10", 0, 3, 4);
        share("t00,91,90,91;c12", 0, 7, 8);
        says(20, "ODDS behind m MONTHS (0 .. 9; which 0 the upper, 1 the lower number).");
        share("t10,91,15;c10", 0, 3, 4);
        share("t10,91,15;c10", 1, 1, 2);
        share("t10,91,15;c10", 8, 1, 2);
        share("t10,91,15;c10", 9, 0, 1);
        tells(Scene.OFFICE, 3, "odds", 0, 0, 0);
        tells(Scene.OFFICE, 4, "odds", 0, 0, 1);
    }

    private void oddsInLeastTerms() {
        says(20, "Shares are told as upper and lower number (above 0) in least terms.");
        share("t00,05;c10", 0, 0, 1);
        share("t00,05,95,95,95,95;c10", 0, 0, 1);
        share("t00,95,95,95,95,95;c10", 0, 1, 2);
        share("t00,91,95,95,95,95;c10", 0, 3, 4);
        share("t00,90,90;c10", 0, 1, 2);
        share("t00,01,02,03,04,95;c10", 0, 1, 2);
    }

    private void oddsRefused() {
        says(20, "LOST: UNKNOWN; OUTSIDE.");
        for (int c : beyond(0, Scene.CLAPS - 1)) {
            refused(Scene.OFFICE, LOST, "odds", c, 0, 0);
        }
        refused(Scene.SHEETS, LOST, "odds", 0, 0, 0);
        for (int m : beyond(0, 9)) {
            refused(Scene.OFFICE, LOST, "odds", 0, m, 0);
        }
        for (int which : beyond(0, 1)) {
            refused(Scene.OFFICE, LOST, "odds", 0, 0, which);
        }
        due("LOST", ThunderPost.LOST, Long.MIN_VALUE);
    }
}
