import java.util.ArrayList;
import java.util.List;

/** All that can be seen of an object. What is seen of readings is seen by taking them back: a look is the last one. */
final class Look {
    private final ThunderPost x;
    private final List<String> seen = new ArrayList<>();

    private Look(ThunderPost x) {
        this.x = x;
    }

    static List<String> at(ThunderPost x) {
        Look look = new Look(x);
        look.atOffice();
        look.atSheets();
        look.atReadings();
        return look.seen;
    }

    private long see(String call, int... args) {
        long answer = Face.call(x, call, args);
        seen.add(Face.text(call, args) + " = " + answer);
        return answer;
    }

    private void atOffice() {
        see("trace");
        for (int what = 0; what <= 4; what++) {
            see("many", what);
        }
        for (int p = 0; p < x.many(1); p++) {
            for (int what = 0; what <= 2; what++) {
                see("ofPerson", p, what);
            }
        }
        for (int c = 0; c < x.many(0); c++) {
            for (int what = 0; what <= 2; what++) {
                see("ofClap", c, what);
            }
            see("loud", c, 9);
        }
    }

    private void atSheets() {
        for (int k = 0; k <= 3; k++) {
            for (int lane = 0; lane <= 2; lane++) {
                see("cell", k, 0, lane);
                see("fault");
                for (int i = 1; x.fault() == 0 && i <= 60; i++) {
                    see("cell", k, i, lane);
                }
            }
        }
    }

    private void atReadings() {
        for (int left = x.many(4); left >= 0; left--) {
            for (int c = 0; c < x.many(0); c++) {
                see("sizes", c);
                see("kinds", c);
            }
            see("damps");
            see("back", Math.min(1, left));
        }
    }
}
