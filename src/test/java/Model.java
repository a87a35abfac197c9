import java.util.ArrayList;
import java.util.List;
import java.util.function.Consumer;

/**
 * The document told once more, as plainly as can be and with no thought of speed: nothing is kept
 * that can be found anew. ModelTest holds the class against it.
 */
final class Model {
    static final int NONE = Due.NONE;

    record Door(int a, int b, boolean one) {
    }

    record Picture(int room, int draw, int minutes) {
    }

    record Group(int many, int minute, String law, int patience) {
    }

    /** A HOUSE as told. */
    static final class Told {
        int rail, guard;
        final List<Integer> holds = new ArrayList<>();
        final List<Door> doors = new ArrayList<>();
        final List<Picture> pictures = new ArrayList<>();
        final List<Group> groups = new ArrayList<>();

        Told twin() {
            Told t = new Told();
            t.rail = rail;
            t.guard = guard;
            t.holds.addAll(holds);
            t.doors.addAll(doors);
            t.pictures.addAll(pictures);
            t.groups.addAll(groups);
            return t;
        }

        boolean leads(int a, int b) {
            return doors.stream().anyMatch(d -> d.a == a && d.b == b || !d.one && d.a == b && d.b == a);
        }

        /** By how many rounds of neighbours b is come to. */
        int far(int a, int b) {
            List<Integer> here = new ArrayList<>(List.of(a));
            for (int steps = 0; steps <= holds.size(); steps++) {
                if (here.contains(b)) {
                    return steps;
                }
                List<Integer> more = new ArrayList<>(here);
                for (int r : here) {
                    for (int s = 0; s < holds.size(); s++) {
                        if (leads(r, s)) {
                            more.add(s);
                        }
                    }
                }
                here = more.stream().distinct().collect(java.util.stream.Collectors.toList());
            }
            return NONE;
        }
    }

    static final class Visitor {
        int number, group, room = -1, patience, saw, done, missed;
        boolean out, clear, over, waited;
        int[] looked = new int[8];

        Visitor twin() {
            Visitor v = new Visitor();
            v.number = number;
            v.group = group;
            v.room = room;
            v.patience = patience;
            v.saw = saw;
            v.done = done;
            v.missed = missed;
            v.out = out;
            v.clear = clear;
            v.over = over;
            v.waited = waited;
            v.looked = looked.clone();
            return v;
        }
    }

    Told told;
    int minute;
    List<Visitor> visitors = new ArrayList<>();

    Model(Told told) {
        this.told = told;
        for (int g = 0; g < told.groups.size(); g++) {
            for (int i = 0; i < told.groups.get(g).many; i++) {
                Visitor v = new Visitor();
                v.number = visitors.size();
                v.group = g;
                v.patience = told.groups.get(g).patience;
                visitors.add(v);
            }
        }
    }

    Model twin() {
        Model m = new Model(told.twin());
        m.minute = minute;
        m.visitors.clear();
        visitors.forEach(v -> m.visitors.add(v.twin()));
        return m;
    }

    int inside(int room) {
        return (int) visitors.stream().filter(v -> !v.out && v.room == room).count();
    }

    int out() {
        return (int) visitors.stream().filter(v -> v.out).count();
    }

    int aim(Visitor v) {
        if (v.out || v.room < 0) {
            return NONE;
        }
        List<Integer> open = new ArrayList<>();
        for (int p = 0; p < told.pictures.size(); p++) {
            if ((v.done & 1 << p) == 0 && told.far(v.room, told.pictures.get(p).room) != NONE) {
                open.add(p);
            }
        }
        if (open.isEmpty()) {
            return NONE;
        }
        String law = told.groups.get(v.group).law;
        if (law.equals("round") || law.equals("first") && open.contains(0)) {
            return open.get(0);
        }
        int best = open.get(0);
        for (int p : open) {
            if (worth(v, p) > worth(v, best)) {
                best = p;
            }
        }
        return best;
    }

    /** What visitor() tells of one, by what. */
    int[] toldOf(Visitor v) {
        int aim = aim(v);
        return new int[] {v.group, v.out || v.room < 0 ? NONE : v.room, v.out ? 1 : 0, v.patience, v.saw, v.done,
            v.missed, aim, aim == NONE ? 0 : v.looked[aim]};
    }

    /** What count() tells, by what, of 1 to 7. */
    int[] counted() {
        return new int[] {told.holds.size(), told.doors.size(), told.pictures.size(), told.groups.size(),
            visitors.size(), minute, out()};
    }

    private int worth(Visitor v, int p) {
        return told.pictures.get(p).draw - 5 * told.far(v.room, told.pictures.get(p).room);
    }

    void minutes(int n) {
        for (int i = 0; i < n; i++) {
            int[] lookers = new int[8];
            for (Visitor v : visitors) {
                v.clear = false;
                v.over = false;
                v.waited = false;
                if (!v.out) {
                    act(v, lookers);
                }
            }
            minute++;
        }
    }

    private boolean holdsOneMore(int room) {
        return inside(room) < told.holds.get(room);
    }

    private void act(Visitor v, int[] lookers) {
        if (v.room < 0) {
            if (told.groups.get(v.group).minute <= minute) {
                if (holdsOneMore(0)) {
                    v.room = 0;
                } else {
                    waits(v);
                }
            }
            return;
        }
        int aim = aim(v);
        if (aim == NONE) {
            v.out = true;
            return;
        }
        Picture picture = told.pictures.get(aim);
        if (picture.room == v.room) {
            v.clear = lookers[aim] < told.rail;
            v.over = !v.clear;
            lookers[aim]++;
            v.saw += picture.draw * (v.clear ? 10 : 4);
            v.looked[aim]++;
            if (v.looked[aim] >= picture.minutes || told.guard != 0 && v.looked[aim] >= told.guard) {
                v.done |= 1 << aim;
            }
            return;
        }
        int next = -1;
        for (int r = told.holds.size() - 1; r >= 0; r--) {
            if (told.leads(v.room, r) && told.far(r, picture.room) != NONE
                    && (next < 0 || told.far(r, picture.room) <= told.far(next, picture.room))) {
                next = r;
            }
        }
        if (holdsOneMore(next)) {
            v.room = next;
        } else {
            waits(v);
        }
    }

    private void waits(Visitor v) {
        v.waited = true;
        if (v.patience > 0) {
            v.patience--;
        } else if (v.room < 0) {
            v.out = true;
        } else {
            int aim = aim(v);
            v.done |= 1 << aim;
            v.missed |= 1 << aim;
        }
    }

    // ---- foretold

    private int seenIf(int n, int what, Consumer<Told> change) {
        Told t = told.twin();
        change.accept(t);
        Model day = new Model(t);
        day.minutes(n);
        return day.seenSoFar(what);
    }

    private int seenSoFar(int what) {
        switch (what) {
            case 0: return visitors.stream().mapToInt(v -> v.saw).sum();
            case 1: return visitors.stream().mapToInt(v -> v.saw).min().getAsInt();
            default: return visitors.stream().mapToInt(v -> Integer.bitCount(v.missed)).sum();
        }
    }

    int seen(int n, int what) {
        return seenIf(n, what, t -> { });
    }

    int bestRule(int n, int of, int what) {
        int best = -1, most = -1;
        for (int k = of == 0 ? 1 : 0; k <= 20; k++) {
            int rule = k;
            int seen = seenIf(n, what, t -> {
                if (of == 0) {
                    t.rail = rule;
                } else {
                    t.guard = rule;
                }
            });
            if (seen > most) {
                most = seen;
                best = k;
            }
        }
        return best;
    }

    int tickets(int group, int n) {
        int best = -1, most = -1;
        for (int k = 0; k <= 60; k++) {
            int minute = k;
            Group g = told.groups.get(group);
            int seen = seenIf(n, 0, t -> t.groups.set(group, new Group(g.many, minute, g.law, g.patience)));
            if (seen > most) {
                most = seen;
                best = k;
            }
        }
        return best;
    }

    int oneWay(int door, int n) {
        Door d = told.doors.get(door);
        return seenIf(n, 0, t -> t.doors.set(door, new Door(d.a, d.b, true))) - seen(n, 0);
    }

    int picture(int picture, int n, int what) {
        Picture p = told.pictures.get(picture);
        if (what == 0) {
            return seenIf(n, 0, t -> t.pictures.set(picture, new Picture(p.room, p.draw, p.minutes - 1))) - seen(n, 0);
        }
        Model day = new Model(told.twin());
        day.visitors.forEach(v -> v.done = 1 << picture);
        day.minutes(n);
        return seen(n, 0) - day.seenSoFar(0);
    }

    private List<Integer> bestHanging;
    private int mostHung;

    int hung(int n, int place) {
        if (told.pictures.size() > 4 || place >= told.pictures.size()) {
            return NONE;
        }
        mostHung = -1;
        hang(n, new ArrayList<>());
        return place < 0 ? mostHung : bestHanging.get(place);
    }

    private void hang(int n, List<Integer> p) {
        if (p.size() == told.pictures.size()) {
            int seen = seenIf(n, 0, t -> {
                for (int k = 0; k < p.size(); k++) {
                    Picture own = told.pictures.get(k);
                    t.pictures.set(k, new Picture(told.pictures.get(p.get(k)).room, own.draw, own.minutes));
                }
            });
            if (seen > mostHung) {
                mostHung = seen;
                bestHanging = new ArrayList<>(p);
            }
            return;
        }
        for (int k = 0; k < told.pictures.size(); k++) {
            if (!p.contains(k)) {
                p.add(k);
                hang(n, p);
                p.remove(p.size() - 1);
            }
        }
    }

    int fire() {
        int minutes = 0;
        for (Visitor v : visitors) {
            if (!v.out && v.room >= 0) {
                if (told.far(v.room, 0) == NONE) {
                    return NONE;
                }
                minutes = Math.max(minutes, told.far(v.room, 0) + 1);
            }
        }
        return minutes;
    }

    int law(int room, int[] counts) {
        String[] laws = {"first", "draw", "round"};
        int best = -1, least = Integer.MAX_VALUE;
        for (int law = 0; law < 3; law++) {
            Told t = told.twin();
            String name = laws[law];
            t.groups.replaceAll(g -> new Group(g.many, g.minute, name, g.patience));
            Model day = new Model(t);
            int off = 0;
            for (int count : counts) {
                day.minutes(1);
                off += Math.abs(day.inside(room) - count);
            }
            if (off < least) {
                least = off;
                best = law;
            }
        }
        return best;
    }

    // ---- asked: LOOKS as classes, so that Java itself finds the BODY

    static class Look {
        final Visitor v;
        final List<Integer> trace;

        Look(Visitor v, List<Integer> trace) {
            this.v = v;
            this.trace = trace;
        }

        int size() {
            trace.add(10);
            return v.saw;
        }

        int mark() {
            trace.add(20);
            return v.number;
        }
    }

    static final class Clear extends Look {
        Clear(Visitor v, List<Integer> trace) {
            super(v, trace);
        }

        @Override int size() {
            trace.add(11);
            int saw = super.size();
            return saw + mark();
        }
    }

    static final class Over extends Look {
        Over(Visitor v, List<Integer> trace) {
            super(v, trace);
        }

        @Override int size() {
            trace.add(12);
            int saw = super.size();
            return saw - mark();
        }

        @Override int mark() {
            trace.add(24);
            return super.mark() + 1000;
        }
    }

    static class Passing extends Look {
        Passing(Visitor v, List<Integer> trace) {
            super(v, trace);
        }

        @Override int size() {
            trace.add(13);
            return 0 - super.size();
        }

        @Override int mark() {
            trace.add(21);
            return super.mark() + 100 * (v.room < 0 ? 0 : v.room);
        }
    }

    static final class Waiting extends Passing {
        Waiting(Visitor v, List<Integer> trace) {
            super(v, trace);
        }

        @Override int size() {
            trace.add(14);
            return super.size() - 100;
        }

        @Override int mark() {
            trace.add(22);
            return super.mark() + v.patience;
        }
    }

    static final class Gone extends Look {
        Gone(Visitor v, List<Integer> trace) {
            super(v, trace);
        }

        @Override int mark() {
            trace.add(23);
            int number = super.mark();
            return number + size();
        }
    }

    static final List<Class<?>> KINDS =
            List.of(Look.class, Clear.class, Over.class, Passing.class, Waiting.class, Gone.class);

    Look look(int visitor, List<Integer> trace) {
        Visitor v = visitors.get(visitor);
        if (v.out) {
            return new Gone(v, trace);
        }
        if (v.clear) {
            return new Clear(v, trace);
        }
        if (v.over) {
            return new Over(v, trace);
        }
        if (v.waited) {
            return new Waiting(v, trace);
        }
        return v.room < 0 ? new Gone(v, trace) : new Passing(v, trace);
    }
}
