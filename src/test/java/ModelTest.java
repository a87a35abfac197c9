import java.util.ArrayList;
import java.util.Arrays;
import java.util.List;
import java.util.Random;

/** Promises 9 to 28 on made-up houses, each answer held against the Model's. The seeds are fixed. */
public final class ModelTest {
    private static final String[] LAWS = {"first", "draw", "round"};

    private final Random random;
    private final String name;
    private final RailOfHeads x = new RailOfHeads();
    private Model model;
    private final Model[] images = new Model[2];

    private ModelTest(int seed) {
        random = new Random(seed);
        name = "seed " + seed + ": ";
    }

    public static void main(String[] args) {
        int runs = args.length > 0 ? Integer.parseInt(args[0]) : 60;
        for (int seed = 0; seed < runs; seed++) {
            new ModelTest(seed).run();
        }
        Due.end();
    }

    private int below(int n) {
        return random.nextInt(n);
    }

    private void run() {
        readHouse();
        for (int i = 0; i < 30; i++) {
            change();
            compare();
        }
        foretell();
    }

    private void readHouse() {
        Model.Told told = new Model.Told();
        boolean tight = below(2) == 0;
        StringBuilder text = new StringBuilder();
        told.rail = 1 + below(tight ? 3 : 20);
        told.guard = below(3) == 0 ? 0 : below(tight ? 6 : 21);
        text.append("rail ").append(told.rail).append(' ').append(told.guard).append(';');
        int rooms = 1 + below(6), doors = rooms == 1 ? 0 : below(10), pictures = 1 + below(8), groups = 1 + below(6);
        for (int i = 0; i < rooms; i++) {
            told.holds.add(1 + below(tight ? 4 : 40));
            text.append("room ").append(told.holds.get(i)).append(';');
        }
        for (int i = 0; i < doors; i++) {
            int a = below(rooms), b = (a + 1 + below(rooms - 1)) % rooms;
            boolean one = below(3) == 0;
            told.doors.add(new Model.Door(a, b, one));
            text.append("door ").append(a).append(' ').append(b).append(one ? " one;" : ";");
        }
        for (int i = 0; i < pictures; i++) {
            int draw = 1 + below(below(3) == 0 ? 60 : 20), room = below(rooms);
            told.pictures.add(new Model.Picture(room, draw, 2 + draw / 10));
            text.append("picture ").append(room).append(' ').append(draw).append(';');
        }
        int left = 30;
        for (int i = 0; i < groups && left > 0; i++) {
            int many = 1 + below(Math.min(left, below(2) == 0 ? 20 : 5));
            left -= many;
            Model.Group g = new Model.Group(many, below(below(4) == 0 ? 61 : 12), LAWS[below(3)], below(tight ? 5 : 21));
            told.groups.add(g);
            text.append("group ").append(many).append(' ').append(g.minute()).append(' ').append(g.law())
                    .append(' ').append(g.patience()).append(';');
        }
        if (text.length() > 400) {
            readHouse();
            return;
        }
        model = new Model(told);
        is("house() of " + text, Due.read(x, text.toString()), model.visitors.size());
    }

    private void change() {
        int k = below(2);
        switch (below(14)) {
            case 0:
                model.told.rail = 1 + below(20);
                model.told.guard = below(21);
                is("rule", x.rule(model.told.rail, model.told.guard), 1);
                break;
            case 1:
                images[k] = model.twin();
                is("image", x.image(k), 1);
                break;
            case 2:
                is("restore", x.restore(k), images[k] == null ? Due.STATE : 1);
                model = images[k] == null ? model : images[k].twin();
                break;
            case 3:
                if (below(4) == 0) {
                    readHouse();
                }
                break;
            default:
                int n = 1 + below(below(5) == 0 ? 20 : 2);
                model.minutes(n);
                is("go(" + n + ")", x.go(n), model.minute);
        }
    }

    private void is(String call, long got, long due) {
        Due.is(name + call, got, due);
    }

    private void compare() {
        int[] counts = {0, model.told.holds.size(), model.told.doors.size(), model.told.pictures.size(),
            model.told.groups.size(), model.visitors.size(), model.minute, model.out(), 0};
        for (int what = 0; what < counts.length; what++) {
            is("count(" + what + ")", x.count(what), counts[what]);
        }
        for (int a = 0; a < model.told.holds.size(); a++) {
            is("room(" + a + ",0)", x.room(a, 0), model.told.holds.get(a));
            is("room(" + a + ",1)", x.room(a, 1), model.inside(a));
            for (int b = 0; b < model.told.holds.size(); b++) {
                is("far(" + a + "," + b + ")", x.far(a, b), model.told.far(a, b));
            }
        }
        is("fire()", x.fire(), model.fire());
        for (int v = 0; v < model.visitors.size(); v++) {
            compareVisitor(v, model.visitors.get(v));
            compareLook(v);
        }
    }

    private void compareVisitor(int number, Model.Visitor v) {
        int aim = model.aim(v);
        int[] due = {v.group, v.out || v.room < 0 ? Due.NONE : v.room, v.out ? 1 : 0, v.patience, v.saw, v.done,
            v.missed, aim, aim == Due.NONE ? 0 : v.looked[aim]};
        for (int what = 0; what < due.length; what++) {
            is("visitor(" + number + "," + what + ")", x.visitor(number, what), due[what]);
        }
    }

    private void compareLook(int v) {
        List<Integer> trace = new ArrayList<>();
        Model.Look look = model.look(v, trace);
        is("kind(" + v + ")", x.kind(v), Model.KINDS.indexOf(look.getClass()));
        for (int kind = 0; kind < 6; kind++) {
            boolean isOne = Model.KINDS.get(kind).isInstance(look);
            is("as(" + v + "," + kind + ")", x.as(v, kind), isOne ? v : Due.KIND);
            is("status()", x.status(), isOne ? 0 : 3);
        }
        for (int what = 0; what < 2; what++) {
            trace.clear();
            is("ask(" + v + "," + what + ")", x.ask(v, what), what == 0 ? look.size() : look.mark());
            for (int i = 0; i < 17; i++) {
                is("trace(" + i + ")", x.trace(i), i < trace.size() ? trace.get(i) : Due.NONE);
            }
        }
    }

    private void foretell() {
        int n = below(4) == 0 ? 1 + below(120) : 1 + below(25);
        for (int what = 0; what < 3; what++) {
            is("seen(" + n + "," + what + ")", x.seen(n, what), model.seen(n, what));
        }
        for (int of = 0; of < 2; of++) {
            for (int what = 0; what < 2; what++) {
                is("bestRule(" + n + "," + of + "," + what + ")", x.bestRule(n, of, what), model.bestRule(n, of, what));
            }
        }
        int group = below(model.told.groups.size());
        is("tickets(" + group + "," + n + ")", x.tickets(group, n), model.tickets(group, n));
        for (int d = 0; d < model.told.doors.size(); d++) {
            is("oneWay(" + d + "," + n + ")", x.oneWay(d, n), model.oneWay(d, n));
        }
        for (int p = 0; p < model.told.pictures.size(); p++) {
            is("picture(" + p + "," + n + ",0)", x.picture(p, n, 0), model.picture(p, n, 0));
            is("picture(" + p + "," + n + ",1)", x.picture(p, n, 1), model.picture(p, n, 1));
        }
        for (int place = -1; place < 5; place++) {
            is("hung(" + n + "," + place + ")", x.hung(n, place), model.hung(n, place));
        }
        foretellLaws();
        compare();
    }

    private void foretellLaws() {
        int lane = below(3), from = below(5);
        for (int room = 0; room < model.told.holds.size(); room++) {
            int n = 1 + below(35);
            int[] counts = likelyCounts(room, n);
            x.row(0, lane, from + n);
            for (int i = 0; i < n; i++) {
                x.set(0, from + i, counts[i]);
            }
            is("counts(" + room + ",0," + from + "," + n + ")", x.counts(room, 0, from, n), model.law(room, counts));
        }
        x.drop(0);
    }

    /** What a day by one law would bring, with a few slips. */
    private int[] likelyCounts(int room, int n) {
        Model.Told told = model.told.twin();
        String law = LAWS[below(3)];
        told.groups.replaceAll(g -> new Model.Group(g.many(), g.minute(), law, g.patience()));
        Model day = new Model(told);
        int[] counts = new int[n];
        Arrays.setAll(counts, i -> {
            day.minutes(1);
            return below(4) == 0 ? below(31) : day.inside(room);
        });
        return counts;
    }
}
