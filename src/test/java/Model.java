import java.util.ArrayList;
import java.util.List;
import java.util.Objects;
import java.util.regex.Matcher;
import java.util.regex.Pattern;

/**
 * A second reading of the document, for comparison: claps are objects of real kinds, rows are real arrays,
 * faults are what the machine really throws, and every "least" and "first" is looked for among all.
 */
final class Model {
    static final int UNKNOWN = -1, OUTSIDE = -2, STATE = -3, FULL = -4, NONE = -9;
    static final long LOST = Long.MIN_VALUE;

    interface Corked {
        int number();

        Model post();

        default int cork() {
            post().leave(4);
            return number();
        }
    }

    static class Clap implements Corked {
        final Model post;
        final int number;
        int size;
        int address;

        Clap(Model post, int number, int size, int address) {
            this.post = post;
            this.number = number;
            this.size = size;
            this.address = address;
        }

        @Override public int number() {
            return number;
        }

        @Override public Model post() {
            return post;
        }

        int kind() {
            return 0;
        }

        int loud(int damp, int m) {
            return size + damp * m;
        }

        int tell() {
            return clapTell();
        }

        final int clapTell() {
            post.leave(1);
            return size;
        }
    }

    static class Dry extends Clap {
        Dry(Model post, int number, int size, int address) {
            super(post, number, size, address);
        }

        @Override int kind() {
            return 1;
        }

        @Override int loud(int damp, int m) {
            return super.loud(damp, m) - 1;
        }

        @Override int tell() {
            post.leave(2);
            return super.tell() + 100;
        }
    }

    static class Booming extends Dry {
        Booming(Model post, int number, int size, int address) {
            super(post, number, size, address);
        }

        @Override int kind() {
            return 2;
        }

        @Override int loud(int damp, int m) {
            return 2 * (size + damp * m);
        }

        @Override int tell() {
            post.leave(3);
            int dry = super.tell();
            return dry + clapTell();
        }

        @Override public int cork() {
            post.leave(5);
            return 60;
        }
    }

    private record Reading(int clap, int month, int loud) { }

    private final Object[] sheets = new Object[4];
    private List<int[]> people = new ArrayList<>();
    private List<Clap> claps = new ArrayList<>();
    private final List<Reading> readings = new ArrayList<>();
    private int damp = 0;
    private int gap = 0;
    private int trace = 0;
    private int fault = 0;

    void leave(int body) {
        trace = trace * 31 + body;
    }

    Clap clapOf(int kind, int number, int size, int address) {
        return switch (kind) {
            case 0 -> new Clap(this, number, size, address);
            case 1 -> new Dry(this, number, size, address);
            default -> new Booming(this, number, size, address);
        };
    }

    // ---- what several calls share

    private boolean noClap(int c) {
        return c < 0 || c >= claps.size();
    }

    private boolean noPerson(int p) {
        return p < 0 || p >= people.size();
    }

    private static boolean out(int v, int least, int most) {
        return v < least || v > most;
    }

    private int faultOf(RuntimeException thrown) {
        if (thrown instanceof NullPointerException) {
            fault = 1;
        } else if (thrown instanceof ClassCastException || thrown instanceof ArrayStoreException) {
            fault = 2;
        } else if (thrown instanceof IndexOutOfBoundsException) {
            fault = 3;
        } else if (thrown instanceof NegativeArraySizeException) {
            fault = 4;
        } else {
            throw thrown;
        }
        return -10 - fault;
    }

    private static int[] taken(Object row, int lane, int i, int n) {
        byte[] bytes = lane == 0 ? (byte[]) row : null;
        short[] shorts = lane == 1 ? (short[]) row : null;
        int[] ints = lane == 2 ? (int[]) row : null;
        int length = lane == 0 ? bytes.length : lane == 1 ? shorts.length : ints.length;
        if (n < 0) {
            throw new NegativeArraySizeException();
        }
        Objects.checkFromIndexSize(i, n, length);
        int[] cells = new int[n];
        for (int k = 0; k < n; k++) {
            cells[k] = lane == 0 ? bytes[i + k] : lane == 1 ? shorts[i + k] : ints[i + k];
        }
        return cells;
    }

    // ---- 1

    int office(int sheet, int lane, int i, int n) {
        fault = 0;
        if (out(sheet, 0, 3)) {
            return UNKNOWN;
        }
        if (out(lane, 0, 2)) {
            return OUTSIDE;
        }
        StringBuilder text = new StringBuilder();
        try {
            for (int code : taken(sheets[sheet], lane, i, n)) {
                text.append(code >= 0 && code < 128 ? (char) code : '?');
            }
        } catch (RuntimeException thrown) {
            return faultOf(thrown);
        }
        for (int k = 1; k <= text.length(); k++) {
            if (!goesOn(text.substring(0, k))) {
                return -100 - (k - 1);
            }
        }
        if (!isText(text.toString())) {
            return -100 - text.length();
        }
        take(text.toString());
        return claps.size();
    }

    private static Pattern textOf(int people) {
        return Pattern.compile("t[0-3][0-9](,[0-9][0-5]){" + people + "}(;[cdb][1-9][0-" + (people - 1) + "]){1,6}");
    }

    private static final Pattern[] TEXTS = {textOf(1), textOf(2), textOf(3), textOf(4), textOf(5)};

    private static boolean goesOn(String head) {
        for (Pattern text : TEXTS) {
            Matcher matcher = text.matcher(head);
            if (matcher.matches() || matcher.hitEnd()) {
                return true;
            }
        }
        return false;
    }

    private static boolean isText(String whole) {
        for (Pattern text : TEXTS) {
            if (text.matcher(whole).matches()) {
                return true;
            }
        }
        return false;
    }

    private void take(String text) {
        damp = text.charAt(1) - '0';
        gap = text.charAt(2) - '0';
        people = new ArrayList<>();
        claps = new ArrayList<>();
        readings.clear();
        String[] parts = text.split(";");
        String[] who = parts[0].split(",");
        for (int k = 1; k < who.length; k++) {
            people.add(new int[] {who[k].charAt(0) - '0', who[k].charAt(1) - '0'});
        }
        for (int k = 1; k < parts.length; k++) {
            int kind = "cdb".indexOf(parts[k].charAt(0));
            claps.add(clapOf(kind, k - 1, parts[k].charAt(1) - '0', parts[k].charAt(2) - '0'));
        }
    }

    int ofPerson(int p, int what) {
        if (noPerson(p)) {
            return UNKNOWN;
        }
        if (out(what, 0, 2)) {
            return OUTSIDE;
        }
        if (what < 2) {
            return people.get(p)[what];
        }
        int set = 0;
        for (Clap clap : claps) {
            set |= clap.address == p ? 1 << clap.number : 0;
        }
        return set;
    }

    int ofClap(int c, int what) {
        if (noClap(c)) {
            return UNKNOWN;
        }
        Clap clap = claps.get(c);
        return switch (what) {
            case 0 -> clap.kind();
            case 1 -> clap.size;
            case 2 -> clap.address;
            default -> OUTSIDE;
        };
    }

    int nerve(int p, int v) {
        if (noPerson(p)) {
            return UNKNOWN;
        }
        if (out(v, 0, 9)) {
            return OUTSIDE;
        }
        int was = people.get(p)[0];
        people.get(p)[0] = v;
        return was;
    }

    int damp(int v) {
        if (out(v, 0, 3)) {
            return OUTSIDE;
        }
        if (claps.isEmpty()) {
            return STATE;
        }
        int was = damp;
        damp = v;
        return was;
    }

    int send(int c, int p) {
        if (noClap(c) || noPerson(p)) {
            return UNKNOWN;
        }
        int was = claps.get(c).address;
        claps.get(c).address = p;
        return was;
    }

    int loud(int c, int m) {
        return noClap(c) ? UNKNOWN : out(m, 0, 9) ? OUTSIDE : claps.get(c).loud(damp, m);
    }

    // ---- 2

    private int ownerAmong(int c, int m, int atHome) {
        List<Integer> asked = new ArrayList<>();
        int p = claps.get(c).address;
        while (!noPerson(p) && !asked.contains(p)) {
            boolean refuses = (atHome & 1 << p) == 0 || claps.get(c).loud(damp, m) > people.get(p)[0];
            if (!refuses) {
                return p;
            }
            asked.add(p);
            p = people.get(p)[1];
        }
        return NONE;
    }

    int owner(int c, int m) {
        return noClap(c) ? UNKNOWN : out(m, 0, 9) ? OUTSIDE : ownerAmong(c, m, -1);
    }

    int last(int c) {
        if (noClap(c)) {
            return UNKNOWN;
        }
        int last = NONE;
        for (int m = 0; m <= 9; m++) {
            last = ownerAmong(c, m, -1) != NONE ? m : last;
        }
        return last;
    }

    private int harm(int p, int[] months) {
        int harm = 0;
        for (int m = 0; m <= 3; m++) {
            int together = 0;
            for (Clap clap : claps) {
                if (clap.address == p && months[clap.number] == m) {
                    together += clap.loud(damp, m);
                }
            }
            harm += Math.max(0, together - people.get(p)[0]);
        }
        return harm;
    }

    int open(int sheet, int lane, int i, int n, int what) {
        fault = 0;
        if (out(sheet, 0, 3)) {
            return UNKNOWN;
        }
        if (out(lane, 0, 2) || out(what, 0, 2) && out(what, 10, 14)) {
            return OUTSIDE;
        }
        int[] months;
        try {
            months = taken(sheets[sheet], lane, i, n);
        } catch (RuntimeException thrown) {
            return faultOf(thrown);
        }
        if (claps.isEmpty()) {
            return STATE;
        }
        if (n != claps.size()) {
            return OUTSIDE;
        }
        int all = 0;
        int set = 0;
        int most = NONE;
        for (int month : months) {
            if (out(month, 0, 3)) {
                return OUTSIDE;
            }
            set |= 1 << month;
        }
        for (int p = 0; p < people.size(); p++) {
            int harm = harm(p, months);
            all += harm;
            if (harm > 0 && (most == NONE || harm > harm(most, months))) {
                most = p;
            }
        }
        return switch (what) {
            case 0 -> all;
            case 1 -> set;
            case 2 -> most;
            default -> noPerson(what - 10) ? NONE : harm(what - 10, months);
        };
    }

    int ease(int p, int k) {
        if (noPerson(p)) {
            return UNKNOWN;
        }
        if (out(k, -1, 5)) {
            return OUTSIDE;
        }
        int[] best = null;
        for (int row = 0; row < 1 << 2 * claps.size(); row++) {
            int[] months = new int[claps.size()];
            for (int c = 0; c < claps.size(); c++) {
                months[c] = row >> 2 * (claps.size() - 1 - c) & 3;
            }
            if (best == null || harm(p, months) < harm(p, best)) {
                best = months;
            }
        }
        return k < 0 ? harm(p, best) : noClap(k) || claps.get(k).address != p ? NONE : best[k];
    }

    // ---- 3

    private int firstWrong(int m, List<Integer> row) {
        for (int place = 0; place < row.size(); place++) {
            if (row.indexOf(row.get(place)) < place) {
                return place;
            }
            if (place > 0) {
                int one = claps.get(row.get(place)).loud(damp, m);
                int ahead = claps.get(row.get(place - 1)).loud(damp, m);
                if (!(one >= ahead + gap || one <= ahead - gap)) {
                    return place;
                }
            }
        }
        return NONE;
    }

    int shelf(int m, int sheet, int lane, int i, int n) {
        fault = 0;
        if (out(sheet, 0, 3)) {
            return UNKNOWN;
        }
        if (out(m, 0, 9) || out(lane, 0, 2) || out(n, 0, 20)) {
            return OUTSIDE;
        }
        List<Integer> row = new ArrayList<>();
        try {
            for (int c : taken(sheets[sheet], lane, i, n)) {
                row.add(c);
            }
        } catch (RuntimeException thrown) {
            return faultOf(thrown);
        }
        for (int c : row) {
            if (noClap(c)) {
                return UNKNOWN;
            }
        }
        return firstWrong(m, row);
    }

    private List<Integer> orderFrom(int m, List<Integer> row) {
        if (row.size() == claps.size()) {
            return firstWrong(m, row) == NONE ? row : null;
        }
        for (int c = 0; c < claps.size(); c++) {
            if (!row.contains(c)) {
                List<Integer> longer = new ArrayList<>(row);
                longer.add(c);
                List<Integer> found = orderFrom(m, longer);
                if (found != null) {
                    return found;
                }
            }
        }
        return null;
    }

    int order(int m, int k) {
        if (out(m, 0, 9) || out(k, 0, 5)) {
            return OUTSIDE;
        }
        if (claps.isEmpty()) {
            return STATE;
        }
        List<Integer> row = orderFrom(m, new ArrayList<>());
        return row == null || k >= row.size() ? NONE : row.get(k);
    }

    // ---- 4

    int reading(int c, int m, int v) {
        if (noClap(c)) {
            return UNKNOWN;
        }
        if (out(m, 0, 9) || out(v, 0, 99)) {
            return OUTSIDE;
        }
        if (readings.size() == 8) {
            return FULL;
        }
        readings.add(new Reading(c, m, v));
        return readings.size() - 1;
    }

    int back(int k) {
        if (out(k, 0, readings.size())) {
            return OUTSIDE;
        }
        for (int taken = 0; taken < k; taken++) {
            readings.remove(readings.size() - 1);
        }
        return readings.size();
    }

    private boolean allAreSo(Clap other, int otherDamp) {
        for (Reading reading : readings) {
            boolean isOther = other != null && other.number == reading.clap();
            Clap clap = isOther ? other : claps.get(reading.clap());
            if (clap.loud(otherDamp, reading.month()) != reading.loud()) {
                return false;
            }
        }
        return true;
    }

    int sizes(int c) {
        if (noClap(c)) {
            return UNKNOWN;
        }
        int set = 0;
        for (int size = 1; size <= 9; size++) {
            set |= allAreSo(clapOf(claps.get(c).kind(), c, size, 0), damp) ? 1 << size : 0;
        }
        return set;
    }

    int kinds(int c) {
        if (noClap(c)) {
            return UNKNOWN;
        }
        int set = 0;
        for (int kind = 0; kind <= 2; kind++) {
            set |= allAreSo(clapOf(kind, c, claps.get(c).size, 0), damp) ? 1 << kind : 0;
        }
        return set;
    }

    int damps() {
        if (claps.isEmpty()) {
            return STATE;
        }
        int set = 0;
        for (int other = 0; other <= 3; other++) {
            set |= allAreSo(null, other) ? 1 << other : 0;
        }
        return set;
    }

    long odds(int c, int m, int which) {
        if (noClap(c) || out(m, 0, 9) || out(which, 0, 1)) {
            return LOST;
        }
        int upper = 0;
        int lower = 0;
        for (int atHome = 0; atHome < 1 << people.size(); atHome++) {
            upper += ownerAmong(c, m, atHome) == NONE ? 0 : 1;
            lower++;
        }
        int common = lower;
        while (upper % common != 0 || lower % common != 0) {
            common--;
        }
        return which == 0 ? upper / common : lower / common;
    }

    // ---- 5

    int sheet(int k, int lane, int n) {
        fault = 0;
        if (out(k, 0, 3)) {
            return UNKNOWN;
        }
        if (out(lane, 0, 2) || n > 60) {
            return OUTSIDE;
        }
        try {
            sheets[k] = lane == 0 ? new byte[n] : lane == 1 ? new short[n] : (Object) new int[n];
        } catch (NegativeArraySizeException thrown) {
            return faultOf(thrown);
        }
        return 1;
    }

    int lose(int k) {
        if (out(k, 0, 3)) {
            return UNKNOWN;
        }
        int had = sheets[k] == null ? 0 : 1;
        sheets[k] = null;
        return had;
    }

    int put(int k, int i, int v) {
        fault = 0;
        if (out(k, 0, 3)) {
            return UNKNOWN;
        }
        try {
            if (sheets[k] instanceof byte[] bytes) {
                bytes[i] = (byte) v;
            } else if (sheets[k] instanceof short[] shorts) {
                shorts[i] = (short) v;
            } else {
                ((int[]) sheets[k])[i] = v;
            }
        } catch (NullPointerException | IndexOutOfBoundsException thrown) {
            return faultOf(thrown);
        }
        return 1;
    }

    long cell(int k, int i, int lane) {
        fault = 0;
        if (out(k, 0, 3) || out(lane, 0, 2)) {
            return LOST;
        }
        try {
            return taken(sheets[k], lane, i, 1)[0];
        } catch (RuntimeException thrown) {
            faultOf(thrown);
            return LOST;
        }
    }

    int copy(int k, int i, int other, int j, int n) {
        fault = 0;
        if (out(k, 0, 3) || out(other, 0, 3)) {
            return UNKNOWN;
        }
        try {
            System.arraycopy(sheets[k], i, sheets[other], j, n);
        } catch (RuntimeException thrown) {
            return faultOf(thrown);
        }
        return n;
    }

    int tell(int c) {
        return noClap(c) ? UNKNOWN : claps.get(c).tell();
    }

    int cork(int c) {
        return noClap(c) ? UNKNOWN : claps.get(c).cork();
    }

    int as(int c, int kind) {
        fault = 0;
        if (noClap(c)) {
            return UNKNOWN;
        }
        if (out(kind, 0, 2)) {
            return OUTSIDE;
        }
        Class<?> wanted = kind == 0 ? Clap.class : kind == 1 ? Dry.class : Booming.class;
        try {
            wanted.cast(claps.get(c));
        } catch (ClassCastException thrown) {
            return faultOf(thrown);
        }
        return 1;
    }

    int trace() {
        return trace;
    }

    int fault() {
        return fault;
    }

    int many(int what) {
        return switch (what) {
            case 0 -> claps.size();
            case 1 -> people.size();
            case 2 -> damp;
            case 3 -> gap;
            case 4 -> readings.size();
            default -> OUTSIDE;
        };
    }
}
