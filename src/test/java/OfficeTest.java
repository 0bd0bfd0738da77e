/** Promises 1 to 8: a new object, the office by a text, and how loud its claps are. */
public final class OfficeTest {
    private static final String TEXT = "t12,51,82,30;c40;d71;b22;c50;d92";
    private static final Check CHECK = new Check("OfficeTest");

    public static void main(String[] args) {
        newObject();
        wholeTexts();
        firstFaults();
        cellsOfTheText();
        refusedTextChangesNothing();
        takenTextMakesAnew();
        people();
        claps();
        nerve();
        damp();
        send();
        loud();
        CHECK.end();
    }

    private static void newObject() {
        ThunderPost x = new ThunderPost();
        for (int what = 0; what <= 4; what++) {
            CHECK.due("many(" + what + ") of a new object", x.many(what), 0);
        }
        CHECK.due("fault() of a new object", x.fault(), 0);
        CHECK.due("trace() of a new object", x.trace(), 0);
        for (int k = 0; k < 4; k++) {
            CHECK.due("lose(" + k + ") of a new object", x.lose(k), 0);
        }
        CHECK.due("ofPerson(0, 0) of a new object", x.ofPerson(0, 0), ThunderPost.UNKNOWN);
        CHECK.due("ofClap(0, 0) of a new object", x.ofClap(0, 0), ThunderPost.UNKNOWN);
        CHECK.due("UNKNOWN", ThunderPost.UNKNOWN, -1);
        CHECK.due("OUTSIDE", ThunderPost.OUTSIDE, -2);
        CHECK.due("STATE", ThunderPost.STATE, -3);
        CHECK.due("FULL", ThunderPost.FULL, -4);
        CHECK.due("NONE", ThunderPost.NONE, -9);
        CHECK.due("LOST", ThunderPost.LOST, Long.MIN_VALUE);
    }

    private static void wholeTexts() {
        String[] texts = {"t00,00;c10", "t39,95;b90", TEXT, "t12,11,22,33,44,50;c14",
            "t12,11,22,33,44,55;c10;d21;b32;c43;d54;b60"};
        int[] claps = {1, 1, 5, 1, 6};
        for (int k = 0; k < texts.length; k++) {
            ThunderPost x = new ThunderPost();
            CHECK.due("office of " + texts[k], Check.tellOffice(x, texts[k]), claps[k]);
            CHECK.due("claps of " + texts[k], x.many(0), claps[k]);
        }
    }

    private static void firstFaults() {
        fault("", 0);
        fault("t", 1);
        fault("x", 0);
        fault("T", 0);
        fault("t4", 1);
        fault("t-", 1);
        fault("t1", 2);
        fault("t1:", 2);
        fault("t12", 3);
        fault("t12;", 3);
        fault("t12,", 4);
        fault("t12,/", 4);
        fault("t12,:", 4);
        fault("t12,5", 5);
        fault("t12,56", 5);
        fault("t12,50", 6);
        fault("t12,50.", 6);
        fault("t12,50;", 7);
        fault("t12,50;a", 7);
        fault("t12,50;e", 7);
        fault("t12,50;c", 8);
        fault("t12,50;c0", 8);
        fault("t12,50;c:", 8);
        fault("t12,50;c4", 9);
        fault("t12,50;c41", 9);
        fault("t12,50,51;c42", 12);
        fault("t12,50;c40,", 10);
        fault("t12,50;c40;", 11);
        fault("t12,50;c40,50", 10);
        fault("t12,50;c40c", 10);
        fault("t12,11,22,33,44,55,", 18);
        fault("t12,11,22,33,44,55,00;c10", 18);
        fault("t12,50;c10;c10;c10;c10;c10;c10;", 30);
        fault("t12,50;c10;c10;c10;c10;c10;c10x", 30);
        fault("t12,50;c10;c10;c10;c10;c10;c10;c10", 30);
    }

    private static void fault(String text, int place) {
        ThunderPost x = new ThunderPost();
        x.as(0, 0);
        CHECK.dueRefused("office of " + text, x, Check.tellOffice(x, text), -100 - place);
        CHECK.due("claps behind " + text, x.many(0), 0);
        CHECK.due("people behind " + text, x.many(1), 0);
    }

    private static void cellsOfTheText() {
        String text = "t12,50;c40";
        for (int lane = 0; lane <= 2; lane++) {
            ThunderPost x = new ThunderPost();
            Check.write(x, 3, lane, Check.codes("xx" + text + "yy"));
            CHECK.due("a text from cell 2 on", x.office(3, lane, 2, 10), 1);
            CHECK.due("a text from cell 1 on", x.office(3, lane, 1, 10), -100);
            CHECK.due("a text and one code more", x.office(3, lane, 2, 11), -110);
            CHECK.due("a text without its last code", x.office(3, lane, 2, 9), -109);
            CHECK.due("no code", x.office(3, lane, 14, 0), -100);
            CHECK.dueFault("no code from beyond", x, x.office(3, lane, 15, 0), 3);
            CHECK.dueFault("no code from ahead", x, x.office(3, lane, -1, 0), 3);
            CHECK.dueFault("one code too many", x, x.office(3, lane, 5, 10), 3);
            CHECK.dueFault("a wrapping sum", x, x.office(3, lane, Integer.MAX_VALUE, Integer.MAX_VALUE), 3);
            CHECK.dueFault("a length below 0", x, x.office(3, lane, -1, -1), 4);
            CHECK.dueFault("another lane", x, x.office(3, (lane + 1) % 3, -1, -1), 2);
            CHECK.dueFault("nothing", x, x.office(2, lane, -1, -1), 1);
            CHECK.dueRefused("lane 3", x, x.office(2, 3, -1, -1), ThunderPost.OUTSIDE);
            CHECK.dueRefused("lane -1", x, x.office(2, -1, -1, -1), ThunderPost.OUTSIDE);
            CHECK.dueRefused("sheet 4", x, x.office(4, 3, 0, 0), ThunderPost.UNKNOWN);
            CHECK.dueRefused("sheet -1", x, x.office(-1, 3, 0, 0), ThunderPost.UNKNOWN);
        }
        ThunderPost wide = new ThunderPost();
        Check.write(wide, 0, 2, Check.codes(text));
        wide.put(0, 0, 116 + 256);
        CHECK.due("an int that is 't' only as a byte", wide.office(0, 2, 0, 10), -100);
        wide.put(0, 0, 116);
        wide.put(0, 4, Integer.MIN_VALUE);
        CHECK.due("the least int for a digit", wide.office(0, 2, 0, 10), -104);
    }

    private static void refusedTextChangesNothing() {
        ThunderPost x = Check.officeOf(TEXT);
        x.reading(0, 0, 4);
        CHECK.due("a wrong text", Check.tellOffice(x, "t39,95,95;b91;b9x"), -116);
        CHECK.due("claps", x.many(0), 5);
        CHECK.due("people", x.many(1), 3);
        CHECK.due("damp", x.many(2), 1);
        CHECK.due("gap", x.many(3), 2);
        CHECK.due("readings", x.many(4), 1);
        CHECK.due("nerve of person 0", x.ofPerson(0, 0), 5);
        CHECK.due("heir of person 0", x.ofPerson(0, 1), 1);
        CHECK.due("kind of clap 0", x.ofClap(0, 0), 0);
        CHECK.due("size of clap 0", x.ofClap(0, 1), 4);
        CHECK.due("address of clap 0", x.ofClap(0, 2), 0);
    }

    private static void takenTextMakesAnew() {
        ThunderPost x = Check.officeOf(TEXT);
        x.reading(0, 0, 4);
        x.nerve(0, 9);
        x.tell(0);
        CHECK.due("a new text", Check.tellOffice(x, "t39,25;b90"), 1);
        CHECK.due("claps", x.many(0), 1);
        CHECK.due("people", x.many(1), 1);
        CHECK.due("damp", x.many(2), 3);
        CHECK.due("gap", x.many(3), 9);
        CHECK.due("readings", x.many(4), 0);
        CHECK.due("nerve of person 0", x.ofPerson(0, 0), 2);
        CHECK.due("person 1", x.ofPerson(1, 0), ThunderPost.UNKNOWN);
        CHECK.due("clap 1", x.ofClap(1, 0), ThunderPost.UNKNOWN);
        CHECK.due("sizes without readings", x.sizes(0), 1022);
        CHECK.due("trace is kept", x.trace(), 1);
        CHECK.due("the text is kept", x.cell(0, 0, 0), 116);
        CHECK.due("the first text again", Check.tellOffice(x, TEXT), 5);
        CHECK.due("nerve of person 0 again", x.ofPerson(0, 0), 5);
        CHECK.due("readings again", x.many(4), 0);
    }

    private static void people() {
        ThunderPost x = Check.officeOf(TEXT);
        int[][] due = {{5, 1, 9}, {8, 2, 2}, {3, 0, 20}};
        for (int p = 0; p < 3; p++) {
            for (int what = 0; what < 3; what++) {
                CHECK.due("ofPerson(" + p + ", " + what + ")", x.ofPerson(p, what), due[p][what]);
            }
        }
        CHECK.due("ofPerson(0, 3)", x.ofPerson(0, 3), ThunderPost.OUTSIDE);
        CHECK.due("ofPerson(0, -1)", x.ofPerson(0, -1), ThunderPost.OUTSIDE);
        CHECK.due("ofPerson(3, 3)", x.ofPerson(3, 3), ThunderPost.UNKNOWN);
        CHECK.due("ofPerson(-1, 0)", x.ofPerson(-1, 0), ThunderPost.UNKNOWN);
        CHECK.due("an heir that there is not", Check.officeOf("t00,15;c10").ofPerson(0, 1), 5);
    }

    private static void claps() {
        ThunderPost x = Check.officeOf(TEXT);
        int[][] due = {{0, 4, 0}, {1, 7, 1}, {2, 2, 2}, {0, 5, 0}, {1, 9, 2}};
        for (int c = 0; c < 5; c++) {
            for (int what = 0; what < 3; what++) {
                CHECK.due("ofClap(" + c + ", " + what + ")", x.ofClap(c, what), due[c][what]);
            }
        }
        CHECK.due("ofClap(0, 3)", x.ofClap(0, 3), ThunderPost.OUTSIDE);
        CHECK.due("ofClap(0, -1)", x.ofClap(0, -1), ThunderPost.OUTSIDE);
        CHECK.due("ofClap(5, 3)", x.ofClap(5, 3), ThunderPost.UNKNOWN);
        CHECK.due("ofClap(-1, 0)", x.ofClap(-1, 0), ThunderPost.UNKNOWN);
    }

    private static void nerve() {
        ThunderPost x = Check.officeOf(TEXT);
        CHECK.due("nerve(2, 9)", x.nerve(2, 9), 3);
        CHECK.due("nerve(2, 0)", x.nerve(2, 0), 9);
        CHECK.due("nerve(2, 10)", x.nerve(2, 10), ThunderPost.OUTSIDE);
        CHECK.due("nerve(2, -1)", x.nerve(2, -1), ThunderPost.OUTSIDE);
        CHECK.due("nerve(3, 10)", x.nerve(3, 10), ThunderPost.UNKNOWN);
        CHECK.due("nerve(-1, 0)", x.nerve(-1, 0), ThunderPost.UNKNOWN);
        CHECK.due("ofPerson(2, 0)", x.ofPerson(2, 0), 0);
        CHECK.due("ofPerson(1, 0)", x.ofPerson(1, 0), 8);
    }

    private static void damp() {
        ThunderPost x = new ThunderPost();
        CHECK.due("damp(4) without an office", x.damp(4), ThunderPost.OUTSIDE);
        CHECK.due("damp(3) without an office", x.damp(3), ThunderPost.STATE);
        CHECK.due("many(2) without an office", x.many(2), 0);
        Check.tellOffice(x, TEXT);
        CHECK.due("damp(3)", x.damp(3), 1);
        CHECK.due("damp(4)", x.damp(4), ThunderPost.OUTSIDE);
        CHECK.due("damp(-1)", x.damp(-1), ThunderPost.OUTSIDE);
        CHECK.due("many(2)", x.many(2), 3);
        CHECK.due("damp(0)", x.damp(0), 3);
        CHECK.due("loud(0, 9)", x.loud(0, 9), 4);
    }

    private static void send() {
        ThunderPost x = Check.officeOf(TEXT);
        CHECK.due("send(0, 2)", x.send(0, 2), 0);
        CHECK.due("send(0, 1)", x.send(0, 1), 2);
        CHECK.due("send(0, 3)", x.send(0, 3), ThunderPost.UNKNOWN);
        CHECK.due("send(0, -1)", x.send(0, -1), ThunderPost.UNKNOWN);
        CHECK.due("send(5, 0)", x.send(5, 0), ThunderPost.UNKNOWN);
        CHECK.due("send(-1, 0)", x.send(-1, 0), ThunderPost.UNKNOWN);
        CHECK.due("ofClap(0, 2)", x.ofClap(0, 2), 1);
        CHECK.due("ofPerson(1, 2)", x.ofPerson(1, 2), 3);
        CHECK.due("ofPerson(0, 2)", x.ofPerson(0, 2), 8);
    }

    private static void loud() {
        ThunderPost x = Check.officeOf("t30,90;c90;d10;b90");
        CHECK.due("a clap at once", x.loud(0, 0), 9);
        CHECK.due("a clap behind 9 months", x.loud(0, 9), 36);
        CHECK.due("a dry one at once", x.loud(1, 0), 0);
        CHECK.due("a dry one behind 2 months", x.loud(1, 2), 6);
        CHECK.due("a booming one at once", x.loud(2, 0), 18);
        CHECK.due("a booming one behind 9 months", x.loud(2, 9), 72);
        CHECK.due("loud(0, 10)", x.loud(0, 10), ThunderPost.OUTSIDE);
        CHECK.due("loud(0, -1)", x.loud(0, -1), ThunderPost.OUTSIDE);
        CHECK.due("loud(3, 10)", x.loud(3, 10), ThunderPost.UNKNOWN);
        CHECK.due("loud(-1, 0)", x.loud(-1, 0), ThunderPost.UNKNOWN);
    }
}
