import java.util.ArrayList;
import java.util.Arrays;
import java.util.Collections;
import java.util.List;

/**
 * The document's face told once more, refusals and all: each method gives what the class's own of that name is due
 * to answer. Model tells the minutes, Text the texts; RunsTest holds the class against it.
 */
final class Twin {
    private record Lane(int bits, List<Integer> items) {
        boolean has(int from, int n) {
            return from >= 0 && n >= 0 && (long) from + n <= items.size();
        }
    }

    private final Lane[] rows = new Lane[8];
    private final StringBuilder tape = new StringBuilder();
    private final Model[] images = new Model[2];
    private final List<Integer> trace = new ArrayList<>();
    private Model house;
    private int latestFault;
    private int latestFinding;

    private static boolean among(int x, int least, int most) {
        return x >= least && x <= most;
    }

    private static boolean isOne(int x, List<?> of) {
        return among(x, 0, of.size() - 1);
    }

    private boolean isRoom(int x) {
        return house != null && isOne(x, house.told.holds);
    }

    private boolean isVisitor(int x) {
        return house != null && isOne(x, house.visitors);
    }

    private int answer(int answer) {
        latestFinding = answer > Due.NULL ? 0 : -1000010 - answer;
        return answer;
    }

    // ---- rows

    int row(int row, int lane, int n) {
        if (!among(row, 0, 7) || !among(lane, 0, 2) || n > 40) {
            return Due.BAD;
        }
        if (n < 0) {
            return answer(Due.SIZE);
        }
        rows[row] = new Lane(8 << lane, new ArrayList<>(Collections.nCopies(n, 0)));
        return answer(n);
    }

    int set(int row, int i, int v) {
        if (!among(row, 0, 7)) {
            return Due.BAD;
        }
        Lane r = rows[row];
        if (r == null || !r.has(i, 1)) {
            return answer(r == null ? Due.NULL : Due.PLACE);
        }
        long all = 1L << r.bits, kept = Math.floorMod((long) v, all);
        r.items.set(i, (int) (kept < all / 2 ? kept : kept - all));
        // an ITEM may be any number, so what is like a finding is none
        latestFinding = 0;
        return r.items.get(i);
    }

    int copy(int a, int i, int b, int j, int n) {
        if (!among(a, 0, 7) || !among(b, 0, 7)) {
            return Due.BAD;
        }
        Lane from = rows[a], to = rows[b];
        if (from == null || to == null) {
            return answer(Due.NULL);
        }
        if (from.bits != to.bits) {
            return answer(Due.STORE);
        }
        if (!from.has(i, n) || !to.has(j, n)) {
            return answer(Due.PLACE);
        }
        List<Integer> ahead = List.copyOf(from.items.subList(i, i + n));
        for (int k = 0; k < n; k++) {
            to.items.set(j + k, ahead.get(k));
        }
        return answer(n);
    }

    int drop(int row) {
        if (!among(row, 0, 7)) {
            return Due.BAD;
        }
        Lane was = rows[row];
        rows[row] = null;
        return answer(was == null ? Due.NULL : was.items.size());
    }

    // ---- houses, minutes

    int feed(long w, int n) {
        if (!among(n, 1, 8)) {
            return Due.BAD;
        }
        if (tape.length() + n > 400) {
            return Due.FULL;
        }
        for (int k = n - 1; k >= 0; k--) {
            tape.append((char) (w >>> 8 * k & 255));
        }
        return tape.length();
    }

    int house() {
        String text = tape.toString();
        tape.setLength(0);
        try {
            house = new Model(Text.read(text));
            return house.visitors.size();
        } catch (Text.Fault f) {
            latestFault = f.number;
            return -1000100 - f.place;
        }
    }

    int fault() {
        return latestFault;
    }

    int far(int a, int b) {
        return isRoom(a) && isRoom(b) ? house.told.far(a, b) : Due.BAD;
    }

    int go(int n) {
        if (house == null) {
            return Due.STATE;
        }
        if (!among(n, 1, 60)) {
            return Due.BAD;
        }
        house.minutes(n);
        return house.minute;
    }

    int rule(int rail, int guard) {
        if (house == null) {
            return Due.STATE;
        }
        if (!among(rail, 1, 20) || !among(guard, 0, 20)) {
            return Due.BAD;
        }
        house.told.rail = rail;
        house.told.guard = guard;
        return 1;
    }

    int visitor(int visitor, int what) {
        if (!isVisitor(visitor) || !among(what, 0, 8)) {
            return Due.BAD;
        }
        return house.toldOf(house.visitors.get(visitor))[what];
    }

    int room(int room, int what) {
        if (!isRoom(room) || !among(what, 0, 1)) {
            return Due.BAD;
        }
        return what == 0 ? house.told.holds.get(room) : house.inside(room);
    }

    // ---- foretold

    int seen(int n, int what) {
        if (house == null) {
            return Due.STATE;
        }
        return among(n, 1, 120) && among(what, 0, 2) ? house.seen(n, what) : Due.BAD;
    }

    int bestRule(int n, int of, int what) {
        if (house == null) {
            return Due.STATE;
        }
        boolean told = among(n, 1, 120) && among(of, 0, 1) && among(what, 0, 1);
        return told ? house.bestRule(n, of, what) : Due.BAD;
    }

    int tickets(int group, int n) {
        boolean told = house != null && isOne(group, house.told.groups) && among(n, 1, 120);
        return told ? house.tickets(group, n) : Due.BAD;
    }

    int oneWay(int door, int n) {
        boolean told = house != null && isOne(door, house.told.doors) && among(n, 1, 120);
        return told ? house.oneWay(door, n) : Due.BAD;
    }

    int picture(int picture, int n, int what) {
        boolean told = house != null && isOne(picture, house.told.pictures) && among(n, 1, 120) && among(what, 0, 1);
        return told ? house.picture(picture, n, what) : Due.BAD;
    }

    int hung(int n, int place) {
        if (house == null) {
            return Due.STATE;
        }
        return among(n, 1, 120) && place >= -1 ? house.hung(n, place) : Due.BAD;
    }

    int fire() {
        return house == null ? Due.STATE : house.fire();
    }

    int counts(int room, int row, int i, int n) {
        if (!isRoom(room) || !among(row, 0, 7) || !among(n, 1, 40)) {
            return Due.BAD;
        }
        Lane r = rows[row];
        if (r == null || !r.has(i, n)) {
            return answer(r == null ? Due.NULL : Due.PLACE);
        }
        int[] counts = r.items.subList(i, i + n).stream().mapToInt(Integer::intValue).toArray();
        for (int count : counts) {
            if (!among(count, 0, 30)) {
                return Due.BAD;
            }
        }
        return answer(house.law(room, counts));
    }

    int image(int k) {
        if (!among(k, 0, 1)) {
            return Due.BAD;
        }
        if (house == null) {
            return Due.STATE;
        }
        images[k] = house.twin();
        return 1;
    }

    int restore(int k) {
        if (!among(k, 0, 1)) {
            return Due.BAD;
        }
        if (images[k] == null) {
            return Due.STATE;
        }
        house = images[k].twin();
        return 1;
    }

    // ---- asked

    int kind(int visitor) {
        return isVisitor(visitor) ? Model.KINDS.indexOf(house.look(visitor, trace).getClass()) : Due.BAD;
    }

    int as(int visitor, int kind) {
        if (!isVisitor(visitor) || !among(kind, 0, 5)) {
            return Due.BAD;
        }
        return answer(Model.KINDS.get(kind).isInstance(house.look(visitor, trace)) ? visitor : Due.KIND);
    }

    int ask(int visitor, int what) {
        if (!isVisitor(visitor) || !among(what, 0, 1)) {
            return Due.BAD;
        }
        trace.clear();
        Model.Look look = house.look(visitor, trace);
        return what == 0 ? look.size() : look.mark();
    }

    int trace(int i) {
        return isOne(i, trace) && i < 16 ? trace.get(i) : Due.NONE;
    }

    int count(int what) {
        if (what == 0) {
            return 8 - Collections.frequency(Arrays.asList(rows), null);
        }
        if (what == 8) {
            return tape.length();
        }
        if (!among(what, 1, 7) || house == null) {
            return among(what, 1, 7) ? 0 : Due.BAD;
        }
        return house.counted()[what - 1];
    }

    int status() {
        return latestFinding;
    }
}
