import java.util.function.Supplier;

/** States of an object from which refused calls are made. */
enum Scene implements Supplier<ThunderPost> {
    /** Nothing has been told. */
    NEW,
    /** No office: sheet 0 has a row of no bytes, sheet 1 shorts, sheet 2 ints, sheet 3 nothing. */
    SHEETS,
    /** An office (its text is on sheet 0, as bytes), two readings, a trace; sheets 1 to 3 as in SHEETS. */
    OFFICE,
    /** The same with eight readings. */
    HEARD;

    /** Damp 1, gap 2; nerves 5, 8, 3 in a ring of heirs; at once the claps are loud by 4, 6, 4, 5, 8. */
    static final String TEXT = "t12,51,82,30;c40;d71;b22;c50;d92";
    static final int CODES = TEXT.length();
    static final int CLAPS = 5;
    static final int PEOPLE = 3;
    /** Five openings from cell 0 on; from cell 1 on the last one is none, and from cell 2 on, too. */
    static final int[] ROW = {0, 1, 2, 3, 0, 4, -1};

    @Override public ThunderPost get() {
        ThunderPost x = new ThunderPost();
        if (this == NEW) {
            return x;
        }
        x.sheet(0, 0, 0);
        Check.write(x, 1, 1, ROW);
        Check.write(x, 2, 2, ROW);
        if (this == SHEETS) {
            return x;
        }
        Check.tellOffice(x, TEXT);
        x.reading(0, 2, 6);
        x.reading(2, 9, 22);
        x.tell(2);
        for (int k = 2; this == HEARD && k < 8; k++) {
            x.reading(1, k, 6 + k);
        }
        return x;
    }
}
