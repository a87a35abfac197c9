import java.util.ArrayList;
import java.util.List;

/**
 * All that other calls show of an object, but status(): what must be the same behind a call that changes
 * nothing. Taking it uses the object up, in fewer than 512 calls together with what Scene made of it.
 */
final class Portrait {
    private final RailOfHeads x;
    private final List<String> lines = new ArrayList<>();

    private Portrait(RailOfHeads x) {
        this.x = x;
    }

    /** Without the tape and the latest fault, which a text with a FAULT does change. */
    static List<String> butTheTape(RailOfHeads x) {
        Portrait p = new Portrait(x);
        p.drawHouse();
        p.drawTrace();
        p.drawRows();
        p.drawImages();
        return p.lines;
    }

    static List<String> whole(RailOfHeads x) {
        Portrait p = new Portrait(x);
        p.add("fault()", x.fault());
        p.add("count(8)", x.count(8));
        p.drawHouse();
        p.drawTrace();
        p.drawRows();
        p.drawImages();
        p.drawTape();
        return p.lines;
    }

    private void add(String call, int answer) {
        lines.add(call + " is " + answer);
    }

    private void drawHouse() {
        for (int what = 0; what < 8; what++) {
            add("count(" + what + ")", x.count(what));
        }
        int rooms = x.count(1);
        for (int a = 0; a < rooms; a++) {
            add("room(" + a + ",0)", x.room(a, 0));
            add("room(" + a + ",1)", x.room(a, 1));
            for (int b = 0; b < rooms; b++) {
                add("far(" + a + "," + b + ")", x.far(a, b));
            }
        }
        int visitors = x.count(5);
        for (int v = 0; v < visitors; v++) {
            add("kind(" + v + ")", x.kind(v));
            for (int what = 0; what < 9; what++) {
                add("visitor(" + v + "," + what + ")", x.visitor(v, what));
            }
        }
        for (int what = 0; what < 3; what++) {
            add("seen(40," + what + ")", x.seen(40, what));
        }
    }

    private void drawTrace() {
        for (int i = 0; i < 6; i++) {
            add("trace(" + i + ")", x.trace(i));
        }
    }

    /** How many ITEMS, of which LANE, and (in a house) which of them are 0 to 30. */
    private void drawRows() {
        boolean inAHouse = x.count(1) > 0;
        for (int r = 0; r < 8; r++) {
            int items = inAHouse ? 40 : 0;
            for (int i = 0; i < items; i++) {
                int law = x.counts(0, r, i, 1);
                add("counts(0," + r + "," + i + ",1)", law);
                items = law == Due.NULL || law == Due.PLACE ? 0 : items;
            }
            for (int s = r + 1; s < 8; s++) {
                add("copy(" + r + ",0," + s + ",0,0)", x.copy(r, 0, s, 0, 0));
            }
        }
        for (int r = 0; r < 8; r++) {
            add("set(" + r + ",0,70000)", x.set(r, 0, 70000));
            add("drop(" + r + ")", x.drop(r));
        }
    }

    private void drawImages() {
        for (int k = 0; k < 2; k++) {
            add("restore(" + k + ")", x.restore(k));
            for (int what = 1; what < 8; what++) {
                add("image " + k + ": count(" + what + ")", x.count(what));
            }
            int visitors = x.count(5);
            for (int v = 0; v < visitors; v++) {
                add("image " + k + ": visitor(" + v + ",4)", x.visitor(v, 4));
                add("image " + k + ": kind(" + v + ")", x.kind(v));
            }
            add("image " + k + ": seen(40,0)", x.seen(40, 0));
        }
    }

    private void drawTape() {
        Due.feed(x, Scene.REST_OF_TAPE);
        add("house()", x.house());
        add("fault() of it", x.fault());
        for (int what = 1; what < 9; what++) {
            add("count(" + what + ") of it", x.count(what));
        }
        add("seen(40,0) of it", x.seen(40, 0));
    }
}
