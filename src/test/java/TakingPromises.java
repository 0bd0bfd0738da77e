import java.util.function.Supplier;

/** Promises 9 to 12: who takes a clap, until when, what openings do, and the least harm. */
final class TakingPromises extends PromiseTests {
    private static final int[] OPEN_WHATS = {0, 1, 2, 10, 14};

    TakingPromises(Check check, Document document) {
        super(check, document);
    }

    @Override void all() {
        refuses();
        ownerByChain();
        ownerNone();
        ownerRefused();
        last();
        harmInAMonth();
        harmOfAllMonths();
        openMonthSet();
        openMostHarm();
        openPerson();
        openCells();
        openRefused();
        openFaults();
        openRefusedBehindFaults();
        ease();
        easeOfSeveral();
        easeNone();
        easeRefused();
    }

    // ---- 9

    private void refuses() {
        says(9, "A PERSON REFUSES a CLAP that is LOUDER than their NERVE.");
        for (int nerve = 0; nerve <= 9; nerve++) {
            for (int size = 1; size <= 9; size++) {
                answers(Check.officeOf("t00,"  + nerve + "5;c" + size + "0"), size <= nerve ? 0 : NONE, "owner", 0, 0);
                answers(Check.officeOf("t00," + nerve + "5;d" + size + "0"), size - 1 <= nerve ? 0 : NONE, "owner", 0, 0);
                answers(Check.officeOf("t00," + nerve + "5;b" + size + "0"), 2 * size <= nerve ? 0 : NONE, "owner", 0, 0);
            }
        }
    }

    private void ownerByChain() {
        says(9, "OWNER of a CLAP behind m MONTHS: who has its ADDRESS, if they do not REFUSE it, else their HEIR, and so on;");
        ThunderPost x = Check.officeOf("t10,11,32,53,74,95;c10");
        int[] due = {0, 1, 1, 2, 2, 3, 3, 4, 4, NONE};
        for (int m = 0; m <= 9; m++) {
            answers(x, due[m], "owner", 0, m);
        }
        x.send(0, 3);
        answers(x, 3, "owner", 0, 0);
        answers(x, 4, "owner", 0, 8);
        answers(Check.officeOf("t00,90,00,01,02,03;c94"), 0, "owner", 0, 0);
        answers(Check.officeOf("t00,01,02,03,04,90;c90"), 4, "owner", 0, 0);
    }

    private void ownerNone() {
        says(9, "NONE: there is no HEIR, or one would be asked again.");
        answers(Check.officeOf("t00,05;c10"), NONE, "owner", 0, 0);
        answers(Check.officeOf("t00,01;c10"), NONE, "owner", 0, 0);
        answers(Check.officeOf("t00,02,90;c10"), NONE, "owner", 0, 0);
        answers(Check.officeOf("t00,01,05,90;c10"), NONE, "owner", 0, 0);
        says(9, "or one would be asked again.");
        answers(Check.officeOf("t00,00;c10"), NONE, "owner", 0, 0);
        answers(Check.officeOf("t00,00,90;c10"), NONE, "owner", 0, 0);
        answers(Check.officeOf("t00,01,00,90;c10"), NONE, "owner", 0, 0);
        answers(Check.officeOf("t00,01,01,90;c10"), NONE, "owner", 0, 0);
        answers(Check.officeOf("t00,01,02,03,01,90;c10"), NONE, "owner", 0, 0);
        answers(Check.officeOf("t00,01,02,03,04,00;c10"), NONE, "owner", 0, 0);
        answers(Check.officeOf("t00,01,02,03,04,04;c10"), NONE, "owner", 0, 0);
    }

    private void ownerRefused() {
        says(9, "OWNER behind m MONTHS (0 .. 9); NONE.");
        tells(Scene.OFFICE, 0, "owner", 3, 0);
        tells(Scene.OFFICE, 1, "owner", 3, 1);
        tells(Scene.OFFICE, 1, "owner", 3, 3);
        tells(Scene.OFFICE, NONE, "owner", 3, 4);
        tells(Scene.OFFICE, NONE, "owner", 3, 9);
        says(9, "UNKNOWN; OUTSIDE.");
        for (int c : beyond(0, Scene.CLAPS - 1)) {
            refused(Scene.OFFICE, UNKNOWN, "owner", c, 0);
            refused(Scene.OFFICE, UNKNOWN, "owner", c, 10);
        }
        refused(Scene.SHEETS, UNKNOWN, "owner", 0, 0);
        for (int m : beyond(0, 9)) {
            refused(Scene.OFFICE, OUTSIDE, "owner", 0, m);
        }
    }

    // ---- 10

    private void last() {
        says(10, "LAST of a CLAP: the greatest m (0 to 9) behind which it has an OWNER; NONE.");
        for (int nerve = 0; nerve <= 9; nerve++) {
            answers(Check.officeOf("t10," + nerve + "5;d10"), nerve, "last", 0);
        }
        answers(Check.officeOf("t00,95;c90"), 9, "last", 0);
        answers(Check.officeOf("t10,95;c10"), 8, "last", 0);
        answers(Check.officeOf("t30,95;d10"), 3, "last", 0);
        answers(Check.officeOf("t10,01,91;c10"), 8, "last", 0);
        says(10, "LAST; NONE.");
        int[] due = {4, 2, 2, 3, 0};
        for (int c = 0; c < Scene.CLAPS; c++) {
            tells(Scene.OFFICE, due[c], "last", c);
        }
        answers(Check.officeOf("t00,85;c90"), NONE, "last", 0);
        answers(Check.officeOf("t30,00;c10"), NONE, "last", 0);
        says(10, "UNKNOWN.");
        for (int c : beyond(0, Scene.CLAPS - 1)) {
            refused(Scene.OFFICE, UNKNOWN, "last", c);
        }
        refused(Scene.SHEETS, UNKNOWN, "last", 0);
    }

    // ---- 11: what it answers

    private static Supplier<ThunderPost> opening(String text, int... months) {
        return () -> withRow(() -> Check.officeOf(text), 1, 2, months);
    }

    private void opens(String text, int[] months, int what, int want) {
        tells(opening(text, months), want, "open", 1, 2, 0, months.length, what);
    }

    private void harmInAMonth() {
        says(11, "OPENINGS told: for each CLAP a MONTH 0 .. 3 in which who has its ADDRESS opens it, "
            + "whether they would REFUSE it or not:");
        opens("t00,01,91;c50", new int[] {0}, 10, 5);
        opens("t00,01,91;c50", new int[] {0}, 11, 0);
        says(11, "HARM to a PERSON in a MONTH: by how much all that they open in it are together LOUDER "
            + "(behind as many MONTHS) than their NERVE (0 at least);");
        for (int nerve = 0; nerve <= 9; nerve++) {
            opens("t00," + nerve + "5;c30;d30", new int[] {0, 0}, 10, Math.max(0, 5 - nerve));
        }
        for (int m = 0; m <= 3; m++) {
            opens("t30,25;c10", new int[] {m}, 10, Math.max(0, 1 + 3 * m - 2));
            opens("t30,25;b10", new int[] {m}, 10, Math.max(0, 2 + 6 * m - 2));
        }
    }

    private void harmOfAllMonths() {
        says(11, "HARM to a PERSON: of all MONTHS together.");
        opens("t00,35;c50;c10", new int[] {0, 1}, 10, 2);
        opens("t00,35;c50;c10", new int[] {3, 3}, 10, 3);
        opens("t00,05;c10;c20;c30;c40", new int[] {3, 2, 1, 0}, 10, 10);
        opens("t00,15;c10;c20;c30;c40", new int[] {3, 2, 1, 0}, 10, 6);
        says(11, "HARM to all together (what 0),");
        opens("t00,35,05;c50;c11;c21", new int[] {0, 1, 1}, 0, 5);
        opens("t00,95,95;c50;c11;c21", new int[] {0, 1, 1}, 0, 0);
        opens("t00,05,05,05,05,05;c90;c91;c92;c93;c94", new int[] {0, 0, 0, 0, 0}, 0, 45);
        opens("t00,05;c90;c90;c90;c90;c90;c90", new int[] {0, 0, 0, 0, 0, 0}, 0, 54);
        opens("t00,95;c90;c90;c90;c90;c90;c90", new int[] {0, 1, 2, 3, 3, 3}, 0, 18);
    }

    private void openMonthSet() {
        says(11, "MONTHS in which somebody opens one, as a set (1),");
        for (int m = 0; m <= 3; m++) {
            opens("t00,95;c10", new int[] {m}, 1, 1 << m);
        }
        opens("t00,95,95;c10;c11;c10;c11;c10;c11", new int[] {0, 1, 2, 3, 0, 1}, 1, 15);
        opens("t00,95,95;c10;c11", new int[] {3, 3}, 1, 8);
        opens("t00,95;c10;c10;c10;c10;c10;c10", new int[] {0, 0, 0, 0, 0, 3}, 1, 9);
    }

    private void openMostHarm() {
        says(11, "the PERSON to whom there is the most HARM (2; of several the least; NONE: there is none),");
        opens("t00,95,35,15;c90;c91;c92", new int[] {0, 0, 0}, 2, 2);
        opens("t00,15,35,95;c90;c91;c92", new int[] {0, 0, 0}, 2, 0);
        opens("t00,05,05,05,05,05;c10;c21;c32;c43;c54", new int[] {0, 0, 0, 0, 0}, 2, 4);
        says(11, "of several the least;");
        opens("t00,95,00,00;c12;c11", new int[] {0, 0}, 2, 1);
        opens("t00,85,85,85;c90;c91;c92", new int[] {0, 1, 2}, 2, 0);
        says(11, "NONE: there is none),");
        opens("t00,95,95;c90;c91", new int[] {0, 3}, 2, NONE);
        opens("t00,85,95;c90;c91", new int[] {0, 3}, 2, 0);
    }

    private void openPerson() {
        says(11, "HARM to PERSON p (10 and p; NONE: there is no such PERSON).");
        String five = "t00,05,05,05,05,05;c10;c21;c32;c43;c54";
        for (int p = 0; p <= 4; p++) {
            opens(five, new int[] {0, 0, 0, 0, 0}, 10 + p, 1 + p);
        }
        opens("t00,05,95;c10", new int[] {0}, 11, 0);
        for (int p = 1; p <= 4; p++) {
            opens("t00,05;c10", new int[] {0}, 10 + p, NONE);
        }
    }

    private void openCells() {
        says(11, "OPENINGS of n such cells:");
        for (int lane = 0; lane <= 2; lane++) {
            for (int k = 0; k <= 3; k++) {
                ThunderPost x = withRow(Scene.OFFICE, k, lane, 9, 9, 0, 1, 2, 3, 0, 9);
                answers(x, 15, "open", k, lane, 2, 5, 1);
                answers(x, OUTSIDE, "open", k, lane, 1, 5, 1);
                answers(x, OUTSIDE, "open", k, lane, 3, 5, 1);
            }
        }
        says(11, "(of cells from i on also where i is not 0 .. how many there are, if none of them is taken, too)");
        for (int i = 0; i <= Scene.ROW.length; i++) {
            refused(Scene.OFFICE, OUTSIDE, "open", 2, 2, i, 0, 0);
            refused(Scene.SHEETS, STATE, "open", 2, 2, i, 0, 0);
        }
        for (int i : beyond(0, Scene.ROW.length)) {
            faulted(Scene.OFFICE, INDEX, "open", 2, 2, i, 0, 0);
            faulted(Scene.SHEETS, INDEX, "open", 2, 2, i, 0, 0);
        }
    }

    // ---- 11: what it refuses

    private void openRefused() {
        says(11, "UNKNOWN: SHEET;");
        for (int k : beyond(0, 3)) {
            refused(Scene.OFFICE, UNKNOWN, "open", k, 2, 0, 5, 0);
            refused(Scene.SHEETS, UNKNOWN, "open", k, 3, -1, -1, 3);
        }
        says(11, "OUTSIDE: lane, what (0 .. 2, 10 .. 14);");
        for (int lane : beyond(0, 2)) {
            refused(Scene.OFFICE, OUTSIDE, "open", 2, lane, 0, 5, 0);
            refused(Scene.SHEETS, OUTSIDE, "open", 3, lane, -1, -1, 0);
        }
        for (int what : new int[] {LEAST, -1, 3, 9, 15, MOST}) {
            refused(Scene.OFFICE, OUTSIDE, "open", 2, 2, 0, 5, what);
            refused(Scene.SHEETS, OUTSIDE, "open", 3, 0, -1, -1, what);
        }
        int[] due = {13, 15, 2, 3, NONE};
        for (int k = 0; k < OPEN_WHATS.length; k++) {
            tells(Scene.OFFICE, due[k], "open", 2, 2, 0, 5, OPEN_WHATS[k]);
        }
    }

    private void openFaults() {
        says(11, "FAULTS CAST, NULL, SIZE, INDEX;");
        for (Scene scene : new Scene[] {Scene.SHEETS, Scene.OFFICE}) {
            for (int k = 0; k <= 2; k++) {
                for (int more = 1; more <= 2; more++) {
                    faulted(scene, CAST, "open", k, (k + more) % 3, 0, 5, 0);
                    faulted(scene, CAST, "open", k, (k + more) % 3, -1, -1, 0);
                }
                faulted(scene, NULL, "open", 3, k, 0, 5, 0);
                faulted(scene, NULL, "open", 3, k, -1, -1, 0);
            }
            faulted(scene, SIZE, "open", 2, 2, 0, -1, 0);
            faulted(scene, SIZE, "open", 2, 2, -1, LEAST, 0);
            faulted(scene, INDEX, "open", 2, 2, 3, 5, 0);
            faulted(scene, INDEX, "open", 2, 2, 0, 8, 0);
            faulted(scene, INDEX, "open", 2, 2, -1, 5, 0);
            faulted(scene, INDEX, "open", 2, 2, MOST, MOST, 0);
            faulted(scene, INDEX, "open", 2, 2, 1, MOST, 0);
        }
    }

    private void openRefusedBehindFaults() {
        says(11, "STATE: there is no OFFICE;");
        refused(Scene.SHEETS, STATE, "open", 2, 2, 0, 5, 0);
        refused(Scene.SHEETS, STATE, "open", 2, 2, 5, 2, 14);
        refused(Scene.SHEETS, STATE, "open", 0, 0, 0, 0, 0);
        says(11, "OUTSIDE: n is not how many CLAPS there are;");
        for (int n : new int[] {0, 1, 4, 6, 7}) {
            refused(Scene.OFFICE, OUTSIDE, "open", 2, 2, 0, n, 0);
        }
        says(11, "a cell is no MONTH 0 .. 3.");
        for (int place = 0; place < Scene.CLAPS; place++) {
            for (int month : beyond(0, 3)) {
                int[] months = {0, 3, 0, 3, 0};
                months[place] = month;
                for (int what : OPEN_WHATS) {
                    refused(() -> withRow(Scene.OFFICE, 1, 2, months), OUTSIDE, "open", 1, 2, 0, 5, what);
                }
            }
        }
        refused(opening("t00,95;c10;c10;c10;c10;c10;c10", 0, 0, 0, 0, 0, 4), OUTSIDE, "open", 1, 2, 0, 6, 1);
        says(11, "what comes to a cell of it is cut to its LANE.");
        answers(withRow(Scene.OFFICE, 1, 0, 256, 257, 258, 259, 512), 15, "open", 1, 0, 0, 5, 1);
        answers(withRow(Scene.OFFICE, 1, 1, 256, 257, 258, 259, 512), OUTSIDE, "open", 1, 1, 0, 5, 1);
        answers(withRow(Scene.OFFICE, 1, 1, 65536, 65537, 65538, 65539, 0), 15, "open", 1, 1, 0, 5, 1);
    }

    // ---- 12

    private void eases(String text, int p, int... due) {
        Supplier<ThunderPost> scene = () -> Check.officeOf(text);
        for (int k = -1; k <= 5; k++) {
            tells(scene, due[k + 1], "ease", p, k);
        }
    }

    private void ease() {
        says(12, "EASE of a PERSON: the least HARM to them by OPENINGS:");
        eases("t00,30,00;c50;c50", 0, 4, 0, 1, NONE, NONE, NONE, NONE);
        eases(Scene.TEXT, 0, 0, 1, NONE, NONE, 0, NONE, NONE);
        eases(Scene.TEXT, 1, 0, NONE, 0, NONE, NONE, NONE, NONE);
        eases(Scene.TEXT, 2, 7, NONE, NONE, 0, NONE, 1, NONE);
        eases("t30,05;c10", 0, 1, 0, NONE, NONE, NONE, NONE, NONE);
        eases("t30,05;c10;d10", 0, 1, 0, 0, NONE, NONE, NONE, NONE);
        says(12, "EASE: HARM (k -1), the MONTH of CLAP k (0 .. 5);");
        eases("t00,95;c90;c90;c90;c90", 0, 0, 0, 1, 2, 3, NONE, NONE);
        eases("t00,95;c90;c90;c90;c90;c90;c90", 0, 18, 0, 0, 0, 1, 2, 3);
        tells(Scene.OFFICE, 7, "ease", 2, -1);
        tells(Scene.OFFICE, 1, "ease", 2, 4);
    }

    private void easeOfSeveral() {
        says(12, "of several the first as a row (by CLAPS that have their ADDRESS).");
        eases("t00,95;c10;c10;c10;c10;c10;c10", 0, 0, 0, 0, 0, 0, 0, 0);
        eases("t00,05;c90;c90;c90;c90;c90;c90", 0, 54, 0, 0, 0, 0, 0, 0);
        eases("t10,05;c90;c90;c90;c90;c90;c90", 0, 54, 0, 0, 0, 0, 0, 0);
        eases("t00,65;c40;c20;c60", 0, 0, 0, 0, 1, NONE, NONE, NONE);
        eases("t00,65;c60;c40;c20", 0, 0, 0, 1, 1, NONE, NONE, NONE);
        eases("t00,65,05;c60;c91;c40;c20", 0, 0, 0, NONE, 1, 1, NONE, NONE);
    }

    private void easeNone() {
        says(12, "NONE: it has not their ADDRESS, there is no such CLAP.");
        eases("t00,05,05;c91", 0, 0, NONE, NONE, NONE, NONE, NONE, NONE);
        ThunderPost x = Check.officeOf("t00,05,05;c91;c40");
        answers(x, NONE, "ease", 0, 0);
        answers(x, 0, "ease", 0, 1);
        answers(x, NONE, "ease", 0, 2);
        x.send(0, 0);
        answers(x, 0, "ease", 0, 0);
        answers(x, NONE, "ease", 1, 0);
        answers(x, 0, "ease", 1, -1);
    }

    private void easeRefused() {
        says(12, "UNKNOWN; OUTSIDE: k.");
        for (int p : beyond(0, Scene.PEOPLE - 1)) {
            refused(Scene.OFFICE, UNKNOWN, "ease", p, 0);
            refused(Scene.OFFICE, UNKNOWN, "ease", p, 6);
        }
        refused(Scene.SHEETS, UNKNOWN, "ease", 0, -1);
        for (int k : beyond(-1, 5)) {
            refused(Scene.OFFICE, OUTSIDE, "ease", 0, k);
        }
    }
}
