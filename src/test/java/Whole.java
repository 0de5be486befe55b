import java.util.ArrayList;
import java.util.List;

/**
 * All that an object tells, a line for each answer: first by the calls that change nothing, then by those that
 * show what IMAGES, the told beginning, TUNES and THE TEXT hold. The object is spent then. Nothing is asked twice:
 * with what made the object, its calls stay under 512.
 */
final class Whole {
    private final TradeWheel x;
    private final List<String> lines = new ArrayList<>();

    private Whole(TradeWheel x) {
        this.x = x;
    }

    static List<String> of(TradeWheel x) {
        Whole whole = new Whole(x);
        whole.line("trace()", x.trace());
        whole.line("bytes", x.count(4));
        whole.askTold("told");
        whole.askNow("NOW");
        for (int image = 0; image < 2; image++) {
            int round = x.back(image);
            whole.line("back(" + image + ")", round);
            if (round >= 0) whole.askNow("behind back(" + image + ")");
        }
        whole.line("anew()", x.anew());
        whole.askNow("behind anew()");
        for (int what = 0; what < 3; what++) whole.line("TUNE " + what, x.tune(what, 1));
        int items = x.read();
        whole.line("read()", items);
        whole.line("bytes behind read()", x.count(4));
        if (items >= 0) {
            whole.askTold("told by THE TEXT");
            whole.askNow("behind read()");
        }
        for (int image = 0; image < 2; image++) whole.line("back(" + image + ") behind read()", x.back(image));
        return whole.lines;
    }

    private void line(String call, long answer) {
        lines.add(call + " = " + answer);
    }

    /** What only a text changes. */
    private void askTold(String when) {
        for (int what = 0; what < 2; what++) line(when + ", count(" + what + ")", x.count(what));
        for (int t = 0; t < x.count(0); t++) {
            for (int what = 0; what < 2; what++) line(when + ", trade(" + t + ", " + what + ")", x.trade(t, what));
        }
        for (int p = 0; p < x.count(1); p++) line(when + ", person(" + p + ", 4)", x.person(p, 4));
    }

    private void askNow(String when) {
        int trades = x.count(0), people = x.count(1);
        line(when + ", now(0)", x.now(0));
        line(when + ", now(2)", x.now(2));
        for (int t = 0; t < trades; t++) {
            line(when + ", wheel(" + t + ")", x.wheel(t));
            for (int what = 2; what < 4; what++) line(when + ", trade(" + t + ", " + what + ")", x.trade(t, what));
        }
        for (int p = 0; p < people; p++) {
            for (int what : new int[] {0, 2, 3}) line(when + ", person(" + p + ", " + what + ")", x.person(p, what));
            for (int t = 0; t < trades; t++) line(when + ", skill(" + p + ", " + t + ")", x.skill(p, t));
            for (int q = 0; q < people; q++) {
                if (q != p) line(when + ", favours(" + p + ", " + q + ")", x.favours(p, q));
            }
        }
    }
}
