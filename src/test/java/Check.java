/** Counts the answers of a test that are not as due, and writes texts and rows on sheets for it. */
final class Check {
    private final String test;
    private int asked = 0;
    private int wrong = 0;

    Check(String test) {
        this.test = test;
    }

    void due(String call, long got, long want) {
        asked++;
        if (got != want) {
            wrong++;
            System.out.println(test + ": " + call + " answered " + got + ", due is " + want);
        }
    }

    void end() {
        System.out.println(test + ": " + asked + " answers, " + wrong + " wrong");
        if (wrong != 0) {
            System.exit(1);
        }
    }

    static void write(ThunderPost x, int sheet, int lane, int... cells) {
        x.sheet(sheet, lane, cells.length);
        for (int i = 0; i < cells.length; i++) {
            x.put(sheet, i, cells[i]);
        }
    }

    static int[] codes(String text) {
        int[] codes = new int[text.length()];
        for (int i = 0; i < codes.length; i++) {
            codes[i] = text.charAt(i);
        }
        return codes;
    }

    /** What office answers for a text, which it leaves on sheet 0. */
    static int tellOffice(ThunderPost x, String text) {
        write(x, 0, 0, codes(text));
        return x.office(0, 0, 0, text.length());
    }

    static ThunderPost officeOf(String text) {
        ThunderPost x = new ThunderPost();
        if (tellOffice(x, text) < 1) {
            throw new IllegalArgumentException("no office: " + text);
        }
        return x;
    }
}
