/** Promises 1 to 8: a new object, the office by a text, and how loud its claps are. */
final class OfficePromises extends PromiseTests {
    private static final String DIGITS = "0123456789";
    private static final String LONGEST = "t39,90,81,72,63,54;c90;d81;b72;c63;d54;b40";

    OfficePromises(Check check, Document document) {
        super(check, document);
    }

    @Override void all() {
        newObject();
        newSheets();
        officeText();
        officeCells();
        officeFaults();
        ofPerson();
        ofClap();
        nerve();
        damp();
        send();
        loud();
    }

    // ---- 1

    private void newObject() {
        says(1, "No OFFICE (no PEOPLE, CLAPS),");
        for (int what = 0; what <= 4; what++) {
            tells(Scene.NEW, 0, "many", what);
        }
        for (int k = 0; k <= 5; k++) {
            refused(Scene.NEW, UNKNOWN, "ofPerson", k, 0);
            refused(Scene.NEW, UNKNOWN, "ofClap", k, 0);
        }
        says(1, "No OFFICE");
        refused(Scene.NEW, STATE, "damp", 0);
        refused(Scene.NEW, STATE, "damps");
        refused(Scene.NEW, STATE, "order", 0, 0);
    }

    private void newSheets() {
        says(1, "SHEETS have nothing.");
        for (int k = 0; k <= 3; k++) {
            answers(new ThunderPost(), 0, "lose", k);
            faulted(Scene.NEW, NULL, "put", k, 0, 0);
            for (int lane = 0; lane <= 2; lane++) {
                faulted(Scene.NEW, NULL, "cell", k, 0, lane);
            }
        }
        says(1, "NONE is -9.");
        due("NONE", ThunderPost.NONE, -9);
    }

    // ---- 2: texts

    private void officeText() {
        head();
        people();
        person();
        heirThatThereIsNot();
        claps();
        clap();
        firstFault();
        tooMany();
        endsTooSoon();
        codes();
        takenMakesAnew();
        notTakenChangesNothing();
    }

    private void head() {
        says(2, "An OFFICE by a TEXT: t, a digit 0 .. 3 (DAMP), a digit 0 .. 9 (GAP),");
        goesOn("", "t");
        goesOn("t", "0123");
        goesOn("t0", DIGITS);
        goesOn("t3", DIGITS);
        for (int damp = 0; damp <= 3; damp++) {
            for (int gap = 0; gap <= 9; gap++) {
                ThunderPost x = Check.officeOf("t" + damp + gap + ",00;c10");
                answers(x, damp, "many", 2);
                answers(x, gap, "many", 3);
            }
        }
    }

    private void people() {
        says(2, "then 1 to 5 PEOPLE, numbered from 0 on,");
        goesOn("t00", ",");
        for (int n = 1; n <= 5; n++) {
            String told = "t00" + LONGEST.substring(3, 3 + 3 * n);
            goesOn(told, n < 5 ? ",;" : ";");
            ThunderPost x = Check.officeOf(told + ";c10");
            answers(x, n, "many", 1);
            answers(x, 10 - n, "ofPerson", n - 1, 0);
            answers(x, UNKNOWN, "ofPerson", n, 0);
        }
    }

    private void person() {
        says(2, "each: , and a digit 0 .. 9 (NERVE), a digit 0 .. 5 (HEIR: the PERSON of that number;");
        goesOn("t00,", DIGITS);
        goesOn("t00,0", "012345");
        goesOn("t00,9", "012345");
        goesOn("t00,00,00,00,00,", DIGITS);
        goesOn("t00,00,00,00,00,0", "012345");
        for (int heir = 0; heir <= 4; heir++) {
            StringBuilder text = new StringBuilder("t00");
            for (int p = 0; p <= 4; p++) {
                text.append(p == heir ? ",9" : ",0").append(heir);
            }
            answers(Check.officeOf(text + ";c9" + (heir + 1) % 5), heir, "owner", 0, 0);
        }
    }

    private void heirThatThereIsNot() {
        says(2, "there may be none such: none then);");
        for (int people = 1; people <= 5; people++) {
            for (int heir = people; heir <= 5; heir++) {
                String text = "t00,0" + heir + ",91,92,93,94".substring(0, 3 * people - 3) + ";c10";
                ThunderPost x = new ThunderPost();
                due("office of " + text, Check.tellOffice(x, text), 1);
                answers(x, heir, "ofPerson", 0, 1);
                answers(x, NONE, "owner", 0, 0);
            }
        }
    }

    private void claps() {
        says(2, "then 1 to 6 CLAPS, numbered from 0 on,");
        int people = "t39,90,81,72,63,54".length();
        goesOn(LONGEST.substring(0, people), ";");
        for (int n = 1; n <= 6; n++) {
            String told = LONGEST.substring(0, people + 4 * n);
            goesOn(told, n < 6 ? ";" : "");
            ThunderPost x = new ThunderPost();
            due("office of " + told, Check.tellOffice(x, told), n);
            answers(x, n, "many", 0);
            answers(x, n < 6 ? 10 - n : 4, "ofClap", n - 1, 1);
            answers(x, UNKNOWN, "ofClap", n, 1);
        }
    }

    private void clap() {
        says(2, "each: ; and a letter, a digit 1 .. 9 (SIZE), a digit (ADDRESS: a PERSON that there is).");
        goesOn("t00,00;", "cdb");
        goesOn("t00,00;c", "123456789");
        goesOn("t00,00;d", "123456789");
        goesOn("t00,00;b", "123456789");
        goesOn("t00,00;c10;", "cdb");
        goesOn("t00,00;c10;c", "123456789");
        for (int people = 1; people <= 5; people++) {
            String told = "t00" + ",00".repeat(people);
            ends(told + ";c1", DIGITS.substring(0, people), 1);
            ends(told + ";b90;d9", DIGITS.substring(0, people), 2);
        }
    }

    /** Every other code behind the head is the first fault; with each of these it ends too soon. */
    private void goesOn(String head, String codes) {
        behind(head, codes, -100 - head.length() - 1);
    }

    /** With each of these codes behind the head it is a text of so many claps. */
    private void ends(String head, String codes, int claps) {
        behind(head, codes, claps);
    }

    private void behind(String head, String codes, int want) {
        for (char code = 0; code < 256; code++) {
            boolean fits = codes.indexOf(code) >= 0;
            ThunderPost x = new ThunderPost();
            int got = Check.tellOffice(x, head + code);
            due("office of " + head + " and code " + (int) code, got, fits ? want : -100 - head.length());
            due("claps behind it", x.many(0), Math.max(0, got));
        }
    }

    private void firstFault() {
        says(2, "FIRST FAULT: the place (from 0 on) of the first code with which no TEXT goes on");
        for (int place = 0; place < LONGEST.length(); place++) {
            StringBuilder spoiled = new StringBuilder(LONGEST);
            spoiled.setCharAt(place, 'x');
            notTaken(spoiled.toString(), place);
            spoiled.setCharAt(LONGEST.length() - 1, 'x');
            notTaken(spoiled.toString(), place);
            ThunderPost x = withRow(Scene.NEW, 3, 1, Check.codes("zz" + spoiled + "zz"));
            answers(x, -100 - place, "office", 3, 1, 2, LONGEST.length());
        }
        notTaken(LONGEST + "x", 42);
        notTaken("t12,50;c41", 9);
        notTaken("t12;c40", 3);
        notTaken("t12,50,50;c42", 12);
    }

    private void tooMany() {
        says(2, "(the , of a sixth PERSON, the ; of a seventh CLAP);");
        notTaken("t00,00,00,00,00,00,", 18);
        notTaken("t00,00,00,00,00,00,00;c10", 18);
        notTaken("t00,00;c10;c10;c10;c10;c10;c10;", 30);
        notTaken("t00,00;c10;c10;c10;c10;c10;c10;c10", 30);
        notTaken(LONGEST + ";c10", 42);
        notTaken("t00,00;c10,00", 10);
    }

    private void endsTooSoon() {
        says(2, "how many codes there are, if it just ends too soon.");
        for (int n = 0; n <= LONGEST.length(); n++) {
            boolean isWhole = n > 18 && (n - 18) % 4 == 0;
            ThunderPost x = new ThunderPost();
            int want = isWhole ? (n - 18) / 4 : -100 - n;
            due("the first " + n + " codes", Check.tellOffice(x, LONGEST.substring(0, n)), want);
        }
        for (int n = 0; n <= 18; n++) {
            notTaken(LONGEST.substring(0, n), n);
        }
        says(2, "how many codes there are");
        ThunderPost x = withRow(Scene.NEW, 0, 2, Check.codes(LONGEST));
        answers(x, -100, "office", 0, 2, 0, 0);
        answers(x, -141, "office", 0, 2, 0, 41);
        answers(x, -100, "office", 0, 2, 42, 0);
    }

    private void notTaken(String text, int place) {
        notTaken(new ThunderPost(), text, place);
        // What earlier texts told is nothing to this one.
        ThunderPost x = Check.officeOf(LONGEST);
        Check.tellOffice(x, Scene.TEXT);
        Check.tellOffice(x, LONGEST);
        notTaken(x, text, place);
    }

    private void notTaken(ThunderPost x, String text, int place) {
        int claps = x.many(0);
        int people = x.many(1);
        due("office of " + text, Check.tellOffice(x, text), -100 - place);
        due("fault() behind " + text, x.fault(), 0);
        due("claps behind " + text, x.many(0), claps);
        due("people behind " + text, x.many(1), people);
    }

    private void codes() {
        says(2, "(Codes: t 116, c 99, d 100, b 98, ; 59, comma 44, digits 48 .. 57.)");
        int[] codes = {116, 51, 57, 44, 57, 53, 59, 99, 49, 48, 59, 100, 57, 48, 59, 98, 50, 48};
        for (int lane = 0; lane <= 2; lane++) {
            answers(withRow(Scene.NEW, 0, lane, codes), 3, "office", 0, lane, 0, codes.length);
            for (int place = 0; place < codes.length; place++) {
                for (int more : new int[] {256, -256, 65536, LEAST}) {
                    int[] other = codes.clone();
                    other[place] += more;
                    // A code that is cut to the lane may be the one of the text again.
                    boolean same = lane == 0 || lane == 1 && (short) more == 0;
                    answers(withRow(Scene.NEW, 0, lane, other), same ? 3 : -100 - place, "office", 0, lane, 0, codes.length);
                }
            }
        }
    }

    private void takenMakesAnew() {
        says(2, "A TEXT that is taken makes all anew: no READINGS.");
        ThunderPost x = Scene.HEARD.get();
        int trace = x.trace();
        x.nerve(0, 9);
        x.damp(3);
        x.send(0, 2);
        answers(x, Scene.CLAPS, "office", 0, 0, 0, Scene.CODES);
        answers(x, 0, "many", 4);
        answers(x, OUTSIDE, "back", 1);
        answers(x, 1022, "sizes", 0);
        answers(x, 5, "ofPerson", 0, 0);
        answers(x, 1, "many", 2);
        answers(x, 0, "ofClap", 0, 2);
        answers(x, trace, "trace");
        due("a smaller office", Check.tellOffice(x, "t39,25;b90"), 1);
        int[] many = {1, 1, 3, 9, 0};
        for (int what = 0; what <= 4; what++) {
            answers(x, many[what], "many", what);
        }
        answers(x, UNKNOWN, "ofPerson", 1, 0);
        answers(x, UNKNOWN, "ofClap", 1, 0);
        answers(x, 2, "ofPerson", 0, 0);
        answers(x, 1, "ofPerson", 0, 2);
        answers(x, 'b', "cell", 0, 7, 0);
    }

    private void notTakenChangesNothing() {
        says(2, "how many CLAPS; -100 less the FIRST FAULT.");
        tells(() -> withRow(Scene.OFFICE, 0, 0, Check.codes("t39,95,95;b91;b9x")), -116, "office", 0, 0, 0, 17);
        tells(() -> withRow(Scene.OFFICE, 0, 0, Check.codes("t39,95,95;b91;b91;")), -118, "office", 0, 0, 0, 18);
        tells(() -> withRow(Scene.OFFICE, 0, 0, Check.codes(LONGEST + ";")), -142, "office", 0, 0, 0, 43);
        tells(() -> withRow(Scene.HEARD, 0, 0, Check.codes("t3")), -102, "office", 0, 0, 0, 2);
        tells(Scene.OFFICE, -131, "office", 0, 0, 0, 31);
        tells(Scene.OFFICE, -100, "office", 1, 1, 0, 7);
    }

    // ---- 2: cells

    private void officeCells() {
        says(2, "An OFFICE by a TEXT of n cells of a SHEET from i on, taken as a row of a LANE:");
        for (int lane = 0; lane <= 2; lane++) {
            for (int k = 0; k <= 3; k++) {
                ThunderPost x = withRow(Scene.NEW, k, lane, Check.codes("xxt12,50;c40;"));
                answers(x, 1, "office", k, lane, 2, 10);
                answers(x, 1, "many", 0);
                answers(x, -100, "office", k, lane, 1, 10);
                answers(x, -100, "office", k, lane, 3, 10);
                answers(x, -111, "office", k, lane, 2, 11);
            }
        }
        says(2, "(of cells from i on also where i is not 0 .. how many there are, if none of them is taken, too)");
        for (int i : new int[] {0, 1, Scene.CODES - 1, Scene.CODES}) {
            tells(Scene.OFFICE, -100, "office", 0, 0, i, 0);
        }
        for (int i : beyond(0, Scene.CODES)) {
            faulted(Scene.OFFICE, INDEX, "office", 0, 0, i, 0);
        }
        tells(Scene.SHEETS, -100, "office", 0, 0, 0, 0);
        for (int i : beyond(0, 0)) {
            faulted(Scene.SHEETS, INDEX, "office", 0, 0, i, 0);
        }
    }

    private void officeFaults() {
        says(2, "UNKNOWN; OUTSIDE: lane;");
        for (int k : beyond(0, 3)) {
            refused(Scene.OFFICE, UNKNOWN, "office", k, 0, 0, Scene.CODES);
            refused(Scene.OFFICE, UNKNOWN, "office", k, 3, -1, -1);
        }
        for (int lane : beyond(0, 2)) {
            refused(Scene.OFFICE, OUTSIDE, "office", 0, lane, 0, Scene.CODES);
            refused(Scene.OFFICE, OUTSIDE, "office", 3, lane, -1, -1);
        }
        says(2, "FAULTS CAST (nothing is no CAST), NULL,");
        for (int k = 0; k <= 2; k++) {
            for (int more = 1; more <= 2; more++) {
                faulted(Scene.OFFICE, CAST, "office", k, (k + more) % 3, 0, 1);
                faulted(Scene.OFFICE, CAST, "office", k, (k + more) % 3, -1, -1);
                faulted(Scene.SHEETS, CAST, "office", k, (k + more) % 3, 9, 0);
            }
            faulted(Scene.OFFICE, NULL, "office", 3, k, 0, 0);
            faulted(Scene.OFFICE, NULL, "office", 3, k, -1, -1);
        }
        says(2, "SIZE: n is below 0,");
        faulted(Scene.OFFICE, SIZE, "office", 0, 0, 0, -1);
        faulted(Scene.OFFICE, SIZE, "office", 0, 0, 0, LEAST);
        faulted(Scene.OFFICE, SIZE, "office", 0, 0, -1, -1);
        faulted(Scene.OFFICE, SIZE, "office", 0, 0, MOST, -1);
        says(2, "INDEX: not all cells are there; -100 less it.");
        faulted(Scene.OFFICE, INDEX, "office", 0, 0, 0, Scene.CODES + 1);
        faulted(Scene.OFFICE, INDEX, "office", 0, 0, 1, Scene.CODES);
        faulted(Scene.OFFICE, INDEX, "office", 0, 0, -1, Scene.CODES);
        faulted(Scene.OFFICE, INDEX, "office", 0, 0, 0, MOST);
        faulted(Scene.OFFICE, INDEX, "office", 0, 0, MOST, MOST);
        faulted(Scene.OFFICE, INDEX, "office", 0, 0, MOST, 1);
        faulted(Scene.OFFICE, INDEX, "office", 0, 0, LEAST, 1);
        faulted(Scene.OFFICE, INDEX, "office", 1, 1, 1, 7);
        tells(Scene.OFFICE, -100, "office", 0, 0, 1, Scene.CODES - 1);
    }

    // ---- 3

    private void ofPerson() {
        says(3, "Of a PERSON: 0 NERVE, 1 HEIR (as told, 0 .. 5), 2 CLAPS that have their ADDRESS, as a set.");
        int[][] due = {{5, 1, 9}, {8, 2, 2}, {3, 0, 20}};
        for (int p = 0; p < Scene.PEOPLE; p++) {
            for (int what = 0; what <= 2; what++) {
                tells(Scene.OFFICE, due[p][what], "ofPerson", p, what);
            }
        }
        for (int heir = 0; heir <= 5; heir++) {
            answers(Check.officeOf("t00,0" + heir + ";c10"), heir, "ofPerson", 0, 1);
        }
        says(3, "Sets are told as bits (bit k for number k).");
        ThunderPost x = Check.officeOf("t00,00,90;c10;c10;c10;c10;c10;c10");
        answers(x, 63, "ofPerson", 0, 2);
        answers(x, 0, "ofPerson", 1, 2);
        x.send(5, 1);
        answers(x, 31, "ofPerson", 0, 2);
        answers(x, 32, "ofPerson", 1, 2);
        says(3, "UNKNOWN; OUTSIDE.");
        for (int p : beyond(0, Scene.PEOPLE - 1)) {
            refused(Scene.OFFICE, UNKNOWN, "ofPerson", p, 0);
            refused(Scene.OFFICE, UNKNOWN, "ofPerson", p, 3);
        }
        answers(Check.officeOf(LONGEST), UNKNOWN, "ofPerson", 5, 0);
        for (int what : beyond(0, 2)) {
            refused(Scene.OFFICE, OUTSIDE, "ofPerson", 0, what);
        }
    }

    // ---- 4

    private void ofClap() {
        says(4, "Of a CLAP: 0 kind, 1 SIZE, 2 ADDRESS.");
        int[][] due = {{0, 4, 0}, {1, 7, 1}, {2, 2, 2}, {0, 5, 0}, {1, 9, 2}};
        for (int c = 0; c < Scene.CLAPS; c++) {
            for (int what = 0; what <= 2; what++) {
                tells(Scene.OFFICE, due[c][what], "ofClap", c, what);
            }
        }
        says(4, "Kinds: 0 CLAP (c); 1 DRY one (d), a CLAP; 2 BOOMING one (b), a DRY one.");
        for (int kind = 0; kind <= 2; kind++) {
            answers(Check.officeOf("t00,00;" + "cdb".charAt(kind) + "10"), kind, "ofClap", 0, 0);
        }
        says(4, "a digit 1 .. 9 (SIZE), a digit (ADDRESS: a PERSON that there is).");
        for (int size = 1; size <= 9; size++) {
            answers(Check.officeOf("t00,00;c" + size + "0"), size, "ofClap", 0, 1);
        }
        for (int p = 0; p <= 4; p++) {
            answers(Check.officeOf("t00,00,00,00,00,00;c1" + p), p, "ofClap", 0, 2);
        }
        says(4, "UNKNOWN; OUTSIDE.");
        for (int c : beyond(0, Scene.CLAPS - 1)) {
            refused(Scene.OFFICE, UNKNOWN, "ofClap", c, 0);
            refused(Scene.OFFICE, UNKNOWN, "ofClap", c, 3);
        }
        answers(Check.officeOf(LONGEST), UNKNOWN, "ofClap", 6, 0);
        for (int what : beyond(0, 2)) {
            refused(Scene.OFFICE, OUTSIDE, "ofClap", 0, what);
        }
    }

    // ---- 5

    private void nerve() {
        says(5, "NERVE of a PERSON becomes v (0 .. 9): what it was.");
        ThunderPost x = Scene.OFFICE.get();
        int was = 3;
        for (int v = 0; v <= 9; v++) {
            answers(x, was, "nerve", 2, v);
            answers(x, v, "ofPerson", 2, 0);
            was = v;
        }
        answers(x, 5, "ofPerson", 0, 0);
        answers(x, 8, "ofPerson", 1, 0);
        says(5, "UNKNOWN; OUTSIDE.");
        for (int p : beyond(0, Scene.PEOPLE - 1)) {
            refused(Scene.OFFICE, UNKNOWN, "nerve", p, 0);
            refused(Scene.OFFICE, UNKNOWN, "nerve", p, 10);
        }
        refused(Scene.SHEETS, UNKNOWN, "nerve", 0, 0);
        for (int v : beyond(0, 9)) {
            refused(Scene.OFFICE, OUTSIDE, "nerve", 0, v);
        }
    }

    // ---- 6

    private void damp() {
        says(6, "DAMP becomes v (0 .. 3): what it was.");
        ThunderPost x = Scene.OFFICE.get();
        int was = 1;
        for (int v = 0; v <= 3; v++) {
            answers(x, was, "damp", v);
            answers(x, v, "many", 2);
            answers(x, 4 + 9 * v, "loud", 0, 9);
            was = v;
        }
        says(6, "OUTSIDE; STATE: there is no OFFICE.");
        for (int v : beyond(0, 3)) {
            refused(Scene.OFFICE, OUTSIDE, "damp", v);
            refused(Scene.SHEETS, OUTSIDE, "damp", v);
        }
        for (int v = 0; v <= 3; v++) {
            refused(Scene.SHEETS, STATE, "damp", v);
        }
    }

    // ---- 7

    private void send() {
        says(7, "ADDRESS of a CLAP becomes a PERSON: who it was.");
        ThunderPost x = Scene.OFFICE.get();
        int was = 0;
        for (int p = 0; p < Scene.PEOPLE; p++) {
            answers(x, was, "send", 0, p);
            answers(x, p, "ofClap", 0, 2);
            was = p;
        }
        answers(x, 2, "send", 4, 0);
        answers(x, 9 - 1 + 16, "ofPerson", 0, 2);
        answers(x, 4 + 1, "ofPerson", 2, 2);
        says(7, "UNKNOWN: CLAP, PERSON.");
        for (int c : beyond(0, Scene.CLAPS - 1)) {
            refused(Scene.OFFICE, UNKNOWN, "send", c, 0);
            refused(Scene.OFFICE, UNKNOWN, "send", c, 3);
        }
        for (int p : beyond(0, Scene.PEOPLE - 1)) {
            refused(Scene.OFFICE, UNKNOWN, "send", 0, p);
        }
        refused(Scene.SHEETS, UNKNOWN, "send", 0, 0);
    }

    // ---- 8

    private void loud() {
        says(8, "LOUD behind m MONTHS: a CLAP by its SIZE, and DAMP times m;");
        louder("c", 1, 0);
        says(8, "a DRY one by 1 less;");
        louder("d", 1, -1);
        answers(Check.officeOf("t00,00;d10"), 0, "loud", 0, 9);
        says(8, "a BOOMING one by twice what a CLAP is.");
        louder("b", 2, 0);
        answers(Check.officeOf("t30,00;b90"), 72, "loud", 0, 9);
        says(8, "How LOUD a CLAP is behind m MONTHS (0 .. 9).");
        tells(Scene.OFFICE, 4, "loud", 0, 0);
        tells(Scene.OFFICE, 13, "loud", 0, 9);
        tells(Scene.OFFICE, 17, "loud", 4, 9);
        says(8, "UNKNOWN; OUTSIDE.");
        for (int c : beyond(0, Scene.CLAPS - 1)) {
            refused(Scene.OFFICE, UNKNOWN, "loud", c, 0);
            refused(Scene.OFFICE, UNKNOWN, "loud", c, 10);
        }
        refused(Scene.SHEETS, UNKNOWN, "loud", 0, 0);
        for (int m : beyond(0, 9)) {
            refused(Scene.OFFICE, OUTSIDE, "loud", 0, m);
        }
    }

    private void louder(String letter, int times, int more) {
        for (int damp = 0; damp <= 3; damp++) {
            for (int size = 1; size <= 9; size++) {
                ThunderPost x = Check.officeOf("t" + damp + "0,00;" + letter + size + "0");
                for (int m = 0; m <= 9; m++) {
                    answers(x, times * (size + damp * m) + more, "loud", 0, m);
                }
            }
        }
    }
}
