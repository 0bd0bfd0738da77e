import java.util.Arrays;
import java.util.Random;

/** All promises: random runs of at most 512 calls, each answer compared with what Model answers. */
public final class ModelTest {
    private static final int RUNS = 3000;
    private static final int CALLS = 512;
    private static final int[] EXTREMES = {Integer.MIN_VALUE, Integer.MIN_VALUE + 1, -100, -2, -1, 60, 61, 100,
        1 << 30, Integer.MAX_VALUE - 1, Integer.MAX_VALUE};
    private static final Check CHECK = new Check("ModelTest");

    private final Random random;
    private final int run;
    private final ThunderPost post = new ThunderPost();
    private final Model model = new Model();
    private int calls = 0;

    private ModelTest(int run) {
        this.run = run;
        random = new Random(run);
    }

    public static void main(String[] args) {
        for (int run = 0; run < RUNS; run++) {
            new ModelTest(run).go();
        }
        CHECK.end();
    }

    private void go() {
        // Some runs stay without an office for long: the refusals of an empty object are looked at, too.
        if (random.nextInt(20) != 0) {
            tellText();
        }
        while (calls < CALLS - 120) {
            int what = random.nextInt(100);
            if (what == 0) {
                tellText();
            } else if (what < 8) {
                tellMonths();
            } else if (what < 16) {
                tellShelf();
            } else if (what < 22) {
                hear();
            } else {
                anyCall(random.nextInt(30));
            }
            due("fault", post.fault(), model.fault());
        }
    }

    private void due(String name, long got, long want, int... args) {
        calls++;
        CHECK.due("run " + run + ", call " + calls + ": " + name + Arrays.toString(args), got, want);
    }

    private void write(int k, int lane, int[] cells) {
        due("sheet", post.sheet(k, lane, cells.length), model.sheet(k, lane, cells.length), k, lane, cells.length);
        for (int i = 0; i < cells.length; i++) {
            due("put", post.put(k, i, cells[i]), model.put(k, i, cells[i]), k, i, cells[i]);
        }
    }

    private void tellText() {
        String text = randomText();
        if (random.nextInt(3) == 0) {
            text = spoiled(text);
        }
        int lane = random.nextInt(3);
        write(0, lane, Check.codes(text));
        int n = text.length();
        due("office", post.office(0, lane, 0, n), model.office(0, lane, 0, n), lane, n);
    }

    private String randomText() {
        StringBuilder text = new StringBuilder("t");
        text.append(random.nextInt(4)).append(random.nextInt(random.nextBoolean() ? 4 : 10));
        int people = 1 + random.nextInt(5);
        for (int p = 0; p < people; p++) {
            text.append(',').append(random.nextInt(10)).append(random.nextInt(6));
        }
        int claps = 1 + random.nextInt(6);
        int crowd = random.nextBoolean() ? people : 1;
        for (int c = 0; c < claps; c++) {
            text.append(';').append("cdb".charAt(random.nextInt(3)));
            text.append(1 + random.nextInt(9)).append(random.nextInt(crowd));
        }
        return text.toString();
    }

    private String spoiled(String text) {
        String codes = "tcdbx;,0123456789:/";
        StringBuilder spoiled = new StringBuilder(text);
        int at = random.nextInt(text.length());
        char code = codes.charAt(random.nextInt(codes.length()));
        switch (random.nextInt(5)) {
            case 0 -> spoiled.setLength(at);
            case 1 -> spoiled.setCharAt(at, code);
            case 2 -> spoiled.insert(at, code);
            case 3 -> spoiled.deleteCharAt(at);
            default -> spoiled.append(random.nextBoolean() ? ";c10" : ",00");
        }
        return spoiled.toString();
    }

    private void tellMonths() {
        int[] months = new int[model.many(0)];
        for (int c = 0; c < months.length; c++) {
            months[c] = random.nextInt(random.nextInt(20) == 0 ? 5 : 4);
        }
        int lane = random.nextInt(3);
        write(1, lane, months);
        int n = months.length;
        for (int what : new int[] {0, 1, 2, 10 + random.nextInt(5)}) {
            due("open", post.open(1, lane, 0, n, what), model.open(1, lane, 0, n, what), lane, n, what);
        }
    }

    private void tellShelf() {
        int[] row = new int[random.nextInt(random.nextInt(5) == 0 ? 25 : 7)];
        for (int place = 0; place < row.length; place++) {
            row[place] = random.nextInt(Math.max(1, model.many(0)) + (random.nextInt(20) == 0 ? 1 : 0));
        }
        int lane = random.nextInt(3);
        write(2, lane, row);
        int n = row.length;
        int m = random.nextInt(10);
        due("shelf", post.shelf(m, 2, lane, 0, n), model.shelf(m, 2, lane, 0, n), m, lane, n);
    }

    private void hear() {
        int c = random.nextInt(6);
        int m = random.nextInt(10);
        int v = Math.max(0, model.loud(c, m)) + (random.nextInt(4) == 0 ? random.nextInt(5) : 0);
        due("reading", post.reading(c, m, v), model.reading(c, m, v), c, m, v);
        due("sizes", post.sizes(c), model.sizes(c), c);
        due("kinds", post.kinds(c), model.kinds(c), c);
        due("damps", post.damps(), model.damps());
    }

    private int small(int bound) {
        int die = random.nextInt(40);
        if (die == 0) {
            return EXTREMES[random.nextInt(EXTREMES.length)];
        }
        return die < 4 ? random.nextInt(bound + 3) - 1 : random.nextInt(bound);
    }

    private void anyCall(int which) {
        if (which < 10) {
            anyOfficeCall(which);
        } else if (which < 20) {
            anyCallOfMore(which);
        } else {
            anySheetCall(which);
        }
    }

    private void anyOfficeCall(int which) {
        int c = small(6);
        int p = small(5);
        int m = small(10);
        int what = small(3);
        int v = small(10);
        int d = small(4);
        switch (which) {
            case 0 -> due("ofPerson", post.ofPerson(p, what), model.ofPerson(p, what), p, what);
            case 1 -> due("ofClap", post.ofClap(c, what), model.ofClap(c, what), c, what);
            case 2 -> due("nerve", post.nerve(p, v), model.nerve(p, v), p, v);
            case 3 -> due("damp", post.damp(d), model.damp(d), d);
            case 4 -> due("send", post.send(c, p), model.send(c, p), c, p);
            case 5 -> due("loud", post.loud(c, m), model.loud(c, m), c, m);
            case 6 -> due("owner", post.owner(c, m), model.owner(c, m), c, m);
            case 7 -> due("last", post.last(c), model.last(c), c);
            case 8 -> {
                int k = small(7) - 1;
                due("ease", post.ease(p, k), model.ease(p, k), p, k);
            }
            default -> {
                int k = small(6);
                due("order", post.order(m, k), model.order(m, k), m, k);
            }
        }
    }

    private void anyCallOfMore(int which) {
        int c = small(6);
        int m = small(10);
        int k = small(4);
        int two = small(2);
        int kind = small(3);
        switch (which) {
            case 10 -> {
                int v = small(100);
                due("reading", post.reading(c, m, v), model.reading(c, m, v), c, m, v);
            }
            case 11 -> due("back", post.back(k), model.back(k), k);
            case 12 -> due("sizes", post.sizes(c), model.sizes(c), c);
            case 13 -> due("kinds", post.kinds(c), model.kinds(c), c);
            case 14 -> due("damps", post.damps(), model.damps());
            case 15 -> due("odds", post.odds(c, m, two), model.odds(c, m, two), c, m, two);
            case 16 -> due("tell", post.tell(c), model.tell(c), c);
            case 17 -> due("cork", post.cork(c), model.cork(c), c);
            case 18 -> due("as", post.as(c, kind), model.as(c, kind), c, kind);
            default -> {
                int what = small(5);
                due("many", post.many(what), model.many(what), what);
                due("trace", post.trace(), model.trace());
            }
        }
    }

    private void anySheetCall(int which) {
        int k = small(4);
        int other = small(4);
        int lane = small(3);
        int i = small(20);
        int j = small(20);
        int n = small(12);
        int v = random.nextInt(3) == 0 ? random.nextInt() : small(8);
        switch (which) {
            case 20 -> {
                int length = small(61);
                due("sheet", post.sheet(k, lane, length), model.sheet(k, lane, length), k, lane, length);
            }
            case 21 -> due("lose", post.lose(k), model.lose(k), k);
            case 22, 23 -> due("put", post.put(k, i, v), model.put(k, i, v), k, i, v);
            case 24, 25 -> due("cell", post.cell(k, i, lane), model.cell(k, i, lane), k, i, lane);
            case 26 -> due("copy", post.copy(k, i, other, j, n), model.copy(k, i, other, j, n), k, i, other, j, n);
            case 27 -> due("office", post.office(k, lane, i, n), model.office(k, lane, i, n), k, lane, i, n);
            case 28 -> {
                int m = small(10);
                due("shelf", post.shelf(m, k, lane, i, n), model.shelf(m, k, lane, i, n), m, k, lane, i, n);
            }
            default -> {
                int what = random.nextBoolean() ? small(3) : 10 + small(5);
                due("open", post.open(k, lane, i, n, what), model.open(k, lane, i, n, what), k, lane, i, n, what);
            }
        }
    }
}
