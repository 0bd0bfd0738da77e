/**
 * An office that delivers thunder: each clap has an address, and the people there refuse what is too
 * loud for them. Every scratch row is made once, in the constructor, because all calls of a run share
 * one room; no call makes an object.
 */
public final class ThunderPost {
    public static final int UNKNOWN = -1, OUTSIDE = -2, STATE = -3, FULL = -4, NONE = -9;
    public static final long LOST = Long.MIN_VALUE;

    private static final int FAULT_NULL = 1, FAULT_CAST = 2, FAULT_INDEX = 3, FAULT_SIZE = 4;
    private static final int KIND_CLAP = 0, KIND_DRY = 1, KIND_BOOMING = 2;
    private static final int MOST_PEOPLE = 5, MOST_CLAPS = 6, MOST_READINGS = 8;
    private static final int SHEETS = 4, MOST_CELLS = 60, MOST_ON_SHELF = 20;
    private static final int LANE_BYTES = 0, LANE_SHORTS = 1, LANE_INTS = 2;
    private static final int MOST_NERVE = 9, MOST_DAMP = 3, MOST_SIZE = 9, MOST_READ = 99;
    private static final int LAST_MONTH = 9, OPENING_MONTHS = 4;

    private final Sheet[] sheets = new Sheet[SHEETS];
    private final TextReader reader = new TextReader();
    private final Readings readings = new Readings();
    private final Openings openings = new Openings();
    private final EaseSearch easeSearch = new EaseSearch();
    private final Shelf shelf = new Shelf();
    private Office office = new Office();
    private Office draft = new Office();
    private int trace = 0;
    private int fault = 0;

    public ThunderPost() {
        for (int k = 0; k < SHEETS; k++) {
            sheets[k] = new Sheet();
        }
    }

    // ---- 1 the office

    public int office(int sheet, int lane, int i, int n) {
        fault = 0;
        if (!isSheet(sheet)) {
            return UNKNOWN;
        }
        if (!isLane(lane)) {
            return OUTSIDE;
        }
        int found = sheets[sheet].faultOfCells(lane, i, n);
        if (found != 0) {
            return faultAnswer(found);
        }
        int firstFault = reader.firstFault(sheets[sheet], i, n, draft);
        if (firstFault != NONE) {
            return -100 - firstFault;
        }
        takeDraft();
        return office.claps;
    }

    // The two offices change places, so that a text that is not taken leaves the old one as it was.
    private void takeDraft() {
        Office old = office;
        office = draft;
        draft = old;
        readings.count = 0;
    }

    public int ofPerson(int p, int what) {
        if (!office.hasPerson(p)) {
            return UNKNOWN;
        }
        switch (what) {
            case 0:
                return office.nerves[p];
            case 1:
                return office.heirs[p];
            case 2:
                return office.clapsFor(p);
            default:
                return OUTSIDE;
        }
    }

    public int ofClap(int c, int what) {
        if (!office.hasClap(c)) {
            return UNKNOWN;
        }
        switch (what) {
            case 0:
                return office.clapKinds[c];
            case 1:
                return office.clapSizes[c];
            case 2:
                return office.addresses[c];
            default:
                return OUTSIDE;
        }
    }

    public int nerve(int p, int v) {
        if (!office.hasPerson(p)) {
            return UNKNOWN;
        }
        if (v < 0 || v > MOST_NERVE) {
            return OUTSIDE;
        }
        int was = office.nerves[p];
        office.nerves[p] = v;
        return was;
    }

    public int damp(int v) {
        if (v < 0 || v > MOST_DAMP) {
            return OUTSIDE;
        }
        if (!office.stands()) {
            return STATE;
        }
        int was = office.dampness;
        office.dampness = v;
        return was;
    }

    public int send(int c, int p) {
        if (!office.hasClap(c) || !office.hasPerson(p)) {
            return UNKNOWN;
        }
        int was = office.addresses[c];
        office.addresses[c] = p;
        return was;
    }

    public int loud(int c, int m) {
        if (!office.hasClap(c)) {
            return UNKNOWN;
        }
        return isMonth(m) ? office.loudness(c, m) : OUTSIDE;
    }

    // ---- 2 who takes it

    public int owner(int c, int m) {
        if (!office.hasClap(c)) {
            return UNKNOWN;
        }
        return isMonth(m) ? office.takerOf(c, m, office.everybody()) : OUTSIDE;
    }

    public int last(int c) {
        if (!office.hasClap(c)) {
            return UNKNOWN;
        }
        for (int m = LAST_MONTH; m >= 0; m--) {
            if (office.takerOf(c, m, office.everybody()) != NONE) {
                return m;
            }
        }
        return NONE;
    }

    public int open(int sheet, int lane, int i, int n, int what) {
        fault = 0;
        if (!isSheet(sheet)) {
            return UNKNOWN;
        }
        if (!isLane(lane) || !isAskedOfOpenings(what)) {
            return OUTSIDE;
        }
        int found = sheets[sheet].faultOfCells(lane, i, n);
        if (found != 0) {
            return faultAnswer(found);
        }
        if (!office.stands()) {
            return STATE;
        }
        if (n != office.claps || !openings.takeMonths(sheets[sheet], i, n)) {
            return OUTSIDE;
        }
        return openingsAnswer(what);
    }

    private static boolean isAskedOfOpenings(int what) {
        return what >= 0 && what <= 2 || what >= 10 && what < 10 + MOST_PEOPLE;
    }

    private int openingsAnswer(int what) {
        switch (what) {
            case 0:
                return openings.harmToAll(office);
            case 1:
                return openings.monthsTaken(office);
            case 2:
                return openings.mostHarmed(office);
            default:
                return office.hasPerson(what - 10) ? openings.harmTo(office, what - 10) : NONE;
        }
    }

    public int ease(int p, int k) {
        if (!office.hasPerson(p)) {
            return UNKNOWN;
        }
        if (k < -1 || k >= MOST_CLAPS) {
            return OUTSIDE;
        }
        if (k >= 0 && !office.isFor(k, p)) {
            return NONE;
        }
        easeSearch.findLeast(office, p);
        return k < 0 ? easeSearch.leastHarm : easeSearch.bestMonths[k];
    }

    // ---- 3 shelves

    public int shelf(int m, int sheet, int lane, int i, int n) {
        fault = 0;
        if (!isSheet(sheet)) {
            return UNKNOWN;
        }
        if (!isMonth(m) || !isLane(lane) || n < 0 || n > MOST_ON_SHELF) {
            return OUTSIDE;
        }
        int found = sheets[sheet].faultOfCells(lane, i, n);
        if (found != 0) {
            return faultAnswer(found);
        }
        shelf.measure(office, m);
        return shelf.takeRow(sheets[sheet], i, n) ? shelf.firstWrong(n) : UNKNOWN;
    }

    public int order(int m, int k) {
        if (!isMonth(m) || k < 0 || k >= MOST_CLAPS) {
            return OUTSIDE;
        }
        if (!office.stands()) {
            return STATE;
        }
        if (k >= office.claps) {
            return NONE;
        }
        shelf.measure(office, m);
        return shelf.fillInOrder() ? shelf.row[k] : NONE;
    }

    // ---- 4 how loud it was

    public int reading(int c, int m, int v) {
        if (!office.hasClap(c)) {
            return UNKNOWN;
        }
        if (!isMonth(m) || v < 0 || v > MOST_READ) {
            return OUTSIDE;
        }
        return readings.add(c, m, v);
    }

    public int back(int k) {
        if (k < 0 || k > readings.count) {
            return OUTSIDE;
        }
        readings.count -= k;
        return readings.count;
    }

    // Each of the next three puts other values into the office, one by one, and then the true one again.

    public int sizes(int c) {
        if (!office.hasClap(c)) {
            return UNKNOWN;
        }
        int truth = office.clapSizes[c];
        int set = 0;
        for (int size = 1; size <= MOST_SIZE; size++) {
            office.clapSizes[c] = size;
            set |= readings.bitIfSo(office, size);
        }
        office.clapSizes[c] = truth;
        return set;
    }

    public int kinds(int c) {
        if (!office.hasClap(c)) {
            return UNKNOWN;
        }
        int truth = office.clapKinds[c];
        int set = 0;
        for (int kind = KIND_CLAP; kind <= KIND_BOOMING; kind++) {
            office.clapKinds[c] = kind;
            set |= readings.bitIfSo(office, kind);
        }
        office.clapKinds[c] = truth;
        return set;
    }

    public int damps() {
        if (!office.stands()) {
            return STATE;
        }
        int truth = office.dampness;
        int set = 0;
        for (int dampness = 0; dampness <= MOST_DAMP; dampness++) {
            office.dampness = dampness;
            set |= readings.bitIfSo(office, dampness);
        }
        office.dampness = truth;
        return set;
    }

    public long odds(int c, int m, int which) {
        if (!office.hasClap(c) || !isMonth(m) || which < 0 || which > 1) {
            return LOST;
        }
        int homes = office.everybody() + 1;
        int upper = 0;
        int lower = homes;
        for (int atHome = 0; atHome < homes; atHome++) {
            if (office.takerOf(c, m, atHome) != NONE) {
                upper++;
            }
        }
        // The lower number is a power of two, at most 2 to the number of people: only halving can lessen it.
        for (int p = 0; p < MOST_PEOPLE && upper % 2 == 0 && lower % 2 == 0; p++) {
            upper /= 2;
            lower /= 2;
        }
        return which == 0 ? upper : lower;
    }

    // ---- 5 sheets, parts

    public int sheet(int k, int lane, int n) {
        fault = 0;
        if (!isSheet(k)) {
            return UNKNOWN;
        }
        if (!isLane(lane) || n > MOST_CELLS) {
            return OUTSIDE;
        }
        if (n < 0) {
            return faultAnswer(FAULT_SIZE);
        }
        sheets[k].renew(lane, n);
        return 1;
    }

    public int lose(int k) {
        if (!isSheet(k)) {
            return UNKNOWN;
        }
        int had = sheets[k].there ? 1 : 0;
        sheets[k].there = false;
        return had;
    }

    public int put(int k, int i, int v) {
        fault = 0;
        if (!isSheet(k)) {
            return UNKNOWN;
        }
        if (!sheets[k].there) {
            return faultAnswer(FAULT_NULL);
        }
        if (!sheets[k].hasCells(i, 1)) {
            return faultAnswer(FAULT_INDEX);
        }
        sheets[k].write(i, v);
        return 1;
    }

    public long cell(int k, int i, int lane) {
        fault = 0;
        if (!isSheet(k) || !isLane(lane)) {
            return LOST;
        }
        fault = sheets[k].faultOfCells(lane, i, 1);
        return fault == 0 ? sheets[k].read(i) : LOST;
    }

    public int copy(int k, int i, int other, int j, int n) {
        fault = 0;
        if (!isSheet(k) || !isSheet(other)) {
            return UNKNOWN;
        }
        Sheet from = sheets[k];
        Sheet to = sheets[other];
        if (!from.there || !to.there) {
            return faultAnswer(FAULT_NULL);
        }
        if (from.cellLane != to.cellLane) {
            return faultAnswer(FAULT_CAST);
        }
        if (!from.hasCells(i, n) || !to.hasCells(j, n)) {
            return faultAnswer(FAULT_INDEX);
        }
        System.arraycopy(from.cells, i, to.cells, j, n);
        return n;
    }

    public int tell(int c) {
        if (!office.hasClap(c)) {
            return UNKNOWN;
        }
        switch (office.clapKinds[c]) {
            case KIND_BOOMING:
                return boomingBody(c);
            case KIND_DRY:
                return dryBody(c);
            default:
                return clapBody(c);
        }
    }

    private int boomingBody(int c) {
        leaveInTrace(3);
        int told = dryBody(c);
        return told + clapBody(c);
    }

    private int dryBody(int c) {
        leaveInTrace(2);
        return clapBody(c) + 100;
    }

    private int clapBody(int c) {
        leaveInTrace(1);
        return office.clapSizes[c];
    }

    private void leaveInTrace(int body) {
        trace = 31 * trace + body;
    }

    public int cork(int c) {
        if (!office.hasClap(c)) {
            return UNKNOWN;
        }
        boolean ownBody = office.clapKinds[c] == KIND_BOOMING;
        leaveInTrace(ownBody ? 5 : 4);
        return ownBody ? 60 : c;
    }

    public int as(int c, int kind) {
        fault = 0;
        if (!office.hasClap(c)) {
            return UNKNOWN;
        }
        if (kind < KIND_CLAP || kind > KIND_BOOMING) {
            return OUTSIDE;
        }
        // Each kind is one of every kind with a smaller number, too.
        return kind <= office.clapKinds[c] ? 1 : faultAnswer(FAULT_CAST);
    }

    public int trace() {
        return trace;
    }

    public int fault() {
        return fault;
    }

    public int many(int what) {
        switch (what) {
            case 0:
                return office.claps;
            case 1:
                return office.people;
            case 2:
                return office.dampness;
            case 3:
                return office.gap;
            case 4:
                return readings.count;
            default:
                return OUTSIDE;
        }
    }

    private static boolean isSheet(int k) {
        return k >= 0 && k < SHEETS;
    }

    private static boolean isLane(int lane) {
        return lane >= LANE_BYTES && lane <= LANE_INTS;
    }

    private static boolean isMonth(int m) {
        return m >= 0 && m <= LAST_MONTH;
    }

    private int faultAnswer(int found) {
        fault = found;
        return -10 - found;
    }

    /** A row of numbers of a lane, or nothing. The cells stay the same array all along. */
    private static final class Sheet {
        final int[] cells = new int[MOST_CELLS];
        int cellLane = LANE_BYTES;
        int length = 0;
        boolean there = false;

        void renew(int lane, int n) {
            cellLane = lane;
            length = n;
            there = true;
            for (int i = 0; i < MOST_CELLS; i++) {
                cells[i] = 0;
            }
        }

        // No sum of i and n: it could wrap.
        boolean hasCells(int i, int n) {
            return n >= 0 && n <= length && i >= 0 && i <= length - n;
        }

        int faultOfCells(int lane, int i, int n) {
            if (there && cellLane != lane) {
                return FAULT_CAST;
            }
            if (!there) {
                return FAULT_NULL;
            }
            if (n < 0) {
                return FAULT_SIZE;
            }
            return hasCells(i, n) ? 0 : FAULT_INDEX;
        }

        int read(int i) {
            return i >= 0 && i < length ? cells[i] : 0;
        }

        void write(int i, int v) {
            if (i < 0 || i >= length) {
                return;
            }
            if (cellLane == LANE_BYTES) {
                cells[i] = (byte) v;
            } else if (cellLane == LANE_SHORTS) {
                cells[i] = (short) v;
            } else {
                cells[i] = v;
            }
        }
    }

    /** People and claps as a text tells them; one without claps is no office. */
    private static final class Office {
        final int[] nerves = new int[MOST_PEOPLE];
        final int[] heirs = new int[MOST_PEOPLE];
        final int[] clapKinds = new int[MOST_CLAPS];
        final int[] clapSizes = new int[MOST_CLAPS];
        final int[] addresses = new int[MOST_CLAPS];
        int people = 0;
        int claps = 0;
        int dampness = 0;
        int gap = 0;

        boolean stands() {
            return claps > 0;
        }

        boolean hasPerson(int p) {
            return p >= 0 && p < people && p < MOST_PEOPLE;
        }

        boolean hasClap(int c) {
            return c >= 0 && c < claps && c < MOST_CLAPS;
        }

        boolean isFor(int c, int p) {
            return hasClap(c) && addresses[c] == p;
        }

        int clapsFor(int p) {
            int set = 0;
            for (int c = 0; c < MOST_CLAPS; c++) {
                if (isFor(c, p)) {
                    set |= 1 << c;
                }
            }
            return set;
        }

        int everybody() {
            return (1 << people) - 1;
        }

        int loudness(int c, int m) {
            if (!hasClap(c)) {
                return 0;
            }
            int asClap = clapSizes[c] + dampness * m;
            if (clapKinds[c] == KIND_BOOMING) {
                return 2 * asClap;
            }
            return clapKinds[c] == KIND_DRY ? asClap - 1 : asClap;
        }

        // Whoever is asked a second time has refused before: after as many steps as people it is all over.
        int takerOf(int c, int m, int atHome) {
            if (!hasClap(c)) {
                return NONE;
            }
            int loudness = loudness(c, m);
            int p = addresses[c];
            for (int asked = 0; asked < MOST_PEOPLE && hasPerson(p); asked++) {
                if ((atHome >> p & 1) != 0 && loudness <= nerves[p]) {
                    return p;
                }
                p = heirs[p];
            }
            return NONE;
        }
    }

    /** Reads a text code by code; it stays at the first code that no text has there. */
    private static final class TextReader {
        private Sheet source = null;
        private Office into = null;
        private int start = 0;
        private int length = 0;
        private int at = 0;

        int firstFault(Sheet sheet, int i, int n, Office target) {
            source = sheet;
            into = target;
            start = i;
            length = n;
            at = 0;
            into.people = 0;
            into.claps = 0;
            boolean whole = readsHead() && readsPeople() && readsClaps() && at == length;
            return whole ? NONE : at;
        }

        private boolean readsHead() {
            if (!takes('t')) {
                return false;
            }
            into.dampness = takeDigit(0, MOST_DAMP);
            if (into.dampness < 0) {
                return false;
            }
            into.gap = takeDigit(0, 9);
            return into.gap >= 0;
        }

        private boolean readsPeople() {
            for (int p = 0; p < MOST_PEOPLE && takes(','); p++) {
                if (!readsPerson(p)) {
                    return false;
                }
                into.people = p + 1;
            }
            return into.people > 0;
        }

        private boolean readsPerson(int p) {
            into.nerves[p] = takeDigit(0, MOST_NERVE);
            if (into.nerves[p] < 0) {
                return false;
            }
            into.heirs[p] = takeDigit(0, 5);
            return into.heirs[p] >= 0;
        }

        private boolean readsClaps() {
            for (int c = 0; c < MOST_CLAPS && takes(';'); c++) {
                if (!readsClap(c)) {
                    return false;
                }
                into.claps = c + 1;
            }
            return into.claps > 0;
        }

        private boolean readsClap(int c) {
            into.clapKinds[c] = takeKind();
            if (into.clapKinds[c] < 0) {
                return false;
            }
            into.clapSizes[c] = takeDigit(1, MOST_SIZE);
            if (into.clapSizes[c] < 0) {
                return false;
            }
            into.addresses[c] = takeDigit(0, into.people - 1);
            return into.addresses[c] >= 0;
        }

        private int takeKind() {
            int kind = kindOf(nextCode());
            if (kind >= 0) {
                at++;
            }
            return kind;
        }

        private static int kindOf(int letter) {
            switch (letter) {
                case 'c':
                    return KIND_CLAP;
                case 'd':
                    return KIND_DRY;
                case 'b':
                    return KIND_BOOMING;
                default:
                    return NONE;
            }
        }

        private int takeDigit(int least, int most) {
            int digit = nextCode() - '0';
            if (digit < least || digit > most) {
                return NONE;
            }
            at++;
            return digit;
        }

        private boolean takes(int code) {
            if (nextCode() != code) {
                return false;
            }
            at++;
            return true;
        }

        // Behind the end there is a number that is no code of any text.
        private int nextCode() {
            return source != null && at < length ? source.read(start + at) : NONE;
        }
    }

    /** For each clap the month in which who has its address opens it. */
    private static final class Openings {
        private final int[] months = new int[MOST_CLAPS];

        boolean takeMonths(Sheet sheet, int i, int n) {
            for (int c = 0; c < n && c < MOST_CLAPS; c++) {
                months[c] = sheet.read(i + c);
                if (months[c] < 0 || months[c] >= OPENING_MONTHS) {
                    return false;
                }
            }
            return true;
        }

        int monthsTaken(Office office) {
            int set = 0;
            for (int c = 0; c < office.claps && c < MOST_CLAPS; c++) {
                set |= 1 << months[c];
            }
            return set;
        }

        int harmTo(Office office, int p) {
            int harm = 0;
            for (int m = 0; m < OPENING_MONTHS; m++) {
                harm += harmIn(office, p, m);
            }
            return harm;
        }

        private int harmIn(Office office, int p, int m) {
            int together = 0;
            for (int c = 0; c < MOST_CLAPS; c++) {
                if (office.isFor(c, p) && months[c] == m) {
                    together += office.loudness(c, m);
                }
            }
            return office.hasPerson(p) ? Math.max(0, together - office.nerves[p]) : 0;
        }

        int harmToAll(Office office) {
            int harm = 0;
            for (int p = 0; p < MOST_PEOPLE; p++) {
                harm += harmTo(office, p);
            }
            return harm;
        }

        int mostHarmed(Office office) {
            int most = 0;
            int who = NONE;
            for (int p = 0; p < MOST_PEOPLE; p++) {
                int harm = harmTo(office, p);
                if (harm > most) {
                    most = harm;
                    who = p;
                }
            }
            return who;
        }
    }

    /** Looks for the least harm that openings can do to one person. */
    private static final class EaseSearch {
        final int[] bestMonths = new int[MOST_CLAPS];
        int leastHarm = 0;
        private final int[] months = new int[MOST_CLAPS];
        private final int[] together = new int[OPENING_MONTHS];
        private Office office = null;
        private int person = 0;

        void findLeast(Office where, int p) {
            office = where;
            person = p;
            leastHarm = Integer.MAX_VALUE;
            for (int m = 0; m < OPENING_MONTHS; m++) {
                together[m] = 0;
            }
            settleFrom(this, 0, 0);
        }

        // Harm only grows with each further clap, so a row that is no better already is left; rows come in
        // their order, so the first of several stays.
        private static void settleFrom(EaseSearch search, int c, int harm) {
            if (harm >= search.leastHarm) {
                return;
            }
            if (c >= MOST_CLAPS) {
                search.keepBest(harm);
                return;
            }
            if (search.office == null || !search.office.isFor(c, search.person)) {
                settleFrom(search, c + 1, harm);
                return;
            }
            for (int m = 0; m < OPENING_MONTHS; m++) {
                int loudness = search.office.loudness(c, m);
                int before = search.harmIn(m);
                search.months[c] = m;
                search.together[m] += loudness;
                settleFrom(search, c + 1, harm + search.harmIn(m) - before);
                search.together[m] -= loudness;
            }
        }

        private int harmIn(int m) {
            if (office == null || !office.hasPerson(person)) {
                return 0;
            }
            return Math.max(0, together[m] - office.nerves[person]);
        }

        private void keepBest(int harm) {
            leastHarm = harm;
            for (int c = 0; c < MOST_CLAPS; c++) {
                bestMonths[c] = months[c];
            }
        }
    }

    /** A row of claps, and how loud each of them is behind the months that are asked for. */
    private static final class Shelf {
        final int[] row = new int[MOST_ON_SHELF];
        private final int[] loudnesses = new int[MOST_CLAPS];
        private int claps = 0;
        private int gap = 0;

        void measure(Office office, int m) {
            claps = Math.min(office.claps, MOST_CLAPS);
            gap = office.gap;
            for (int c = 0; c < claps; c++) {
                loudnesses[c] = office.loudness(c, m);
            }
        }

        boolean takeRow(Sheet sheet, int i, int n) {
            for (int place = 0; place < n && place < MOST_ON_SHELF; place++) {
                row[place] = sheet.read(i + place);
                if (!isClap(row[place])) {
                    return false;
                }
            }
            return true;
        }

        private boolean isClap(int c) {
            return c >= 0 && c < claps && c < MOST_CLAPS;
        }

        int firstWrong(int n) {
            int standing = 0;
            for (int place = 0; place < n && place < MOST_ON_SHELF; place++) {
                if (!fits(row[place], place, standing)) {
                    return place;
                }
                standing |= 1 << row[place];
            }
            return NONE;
        }

        private boolean fits(int c, int place, int standing) {
            if (!isClap(c) || (standing >> c & 1) != 0) {
                return false;
            }
            if (place == 0) {
                return true;
            }
            int ahead = row[place - 1];
            return isClap(ahead) && Math.abs(loudnesses[c] - loudnesses[ahead]) >= gap;
        }

        boolean fillInOrder() {
            return fillFrom(this, 0, 0);
        }

        // Claps are tried in the order of their numbers, so the first row that is filled is the first of all.
        private static boolean fillFrom(Shelf shelf, int place, int standing) {
            if (place >= shelf.claps || place >= MOST_CLAPS) {
                return true;
            }
            for (int c = 0; c < shelf.claps; c++) {
                if (shelf.fits(c, place, standing)) {
                    shelf.row[place] = c;
                    if (fillFrom(shelf, place + 1, standing | 1 << c)) {
                        return true;
                    }
                }
            }
            return false;
        }
    }

    /** What was heard: behind so many months a clap was loud by so much. */
    private static final class Readings {
        private final int[] heardClaps = new int[MOST_READINGS];
        private final int[] heardMonths = new int[MOST_READINGS];
        private final int[] heardLoud = new int[MOST_READINGS];
        int count = 0;

        int add(int c, int m, int v) {
            if (count >= MOST_READINGS) {
                return FULL;
            }
            heardClaps[count] = c;
            heardMonths[count] = m;
            heardLoud[count] = v;
            count++;
            return count - 1;
        }

        int bitIfSo(Office office, int number) {
            for (int k = 0; k < count && k < MOST_READINGS; k++) {
                if (office.loudness(heardClaps[k], heardMonths[k]) != heardLoud[k]) {
                    return 0;
                }
            }
            return 1 << number;
        }
    }
}
