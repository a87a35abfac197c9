import java.util.ArrayList;
import java.util.Arrays;
import java.util.List;
import java.util.Random;

/** Promises 9 to 28 on made-up houses, each answer held against the Model's. The seeds are fixed. */
public final class ModelTest {
    private static final String[] LAWS = {"first", "draw", "round"};

    private final MadeUp madeUp;
    private final String name;
    private final RailOfHeads x = new RailOfHeads();
    private Model model;
    private final Model[] images = new Model[2];

    private ModelTest(int seed) {
        madeUp = new MadeUp(new Random(seed));
        name = "seed " + seed + ": ";
    }

    public static void main(String[] args) throws Text.Fault {
        int runs = args.length > 0 ? Integer.parseInt(args[0]) : 60;
        for (int seed = 0; seed < runs; seed++) {
            new ModelTest(seed).run();
        }
        Due.end();
    }

    private int below(int n) {
        return madeUp.below(n);
    }

    private void run() throws Text.Fault {
        readHouse();
        for (int i = 0; i < 30; i++) {
            change();
            compare();
        }
        foretell();
    }

    private void readHouse() throws Text.Fault {
        String text = madeUp.house();
        model = new Model(Text.read(text));
        is("house() of " + text, Due.read(x, text), model.visitors.size());
    }

    private void change() throws Text.Fault {
        int k = below(2);
        switch (below(14)) {
            case 0:
                model.told.rail = 1 + below(20);
                model.told.guard = below(21);
                is("rule", x.rule(model.told.rail, model.told.guard), 1);
                break;
            case 1:
                images[k] = model.twin();
                is("image", x.image(k), 1);
                break;
            case 2:
                is("restore", x.restore(k), images[k] == null ? Due.STATE : 1);
                model = images[k] == null ? model : images[k].twin();
                break;
            case 3:
                if (below(4) == 0) {
                    readHouse();
                }
                break;
            default:
                int n = 1 + below(below(5) == 0 ? 20 : 2);
                model.minutes(n);
                is("go(" + n + ")", x.go(n), model.minute);
        }
    }

    private void is(String call, long got, long due) {
        Due.is(name + call, got, due);
    }

    private void compare() {
        int[] counted = model.counted();
        for (int what = 1; what <= counted.length; what++) {
            is("count(" + what + ")", x.count(what), counted[what - 1]);
        }
        is("count(0)", x.count(0), 0);
        is("count(8)", x.count(8), 0);
        for (int a = 0; a < model.told.holds.size(); a++) {
            is("room(" + a + ",0)", x.room(a, 0), model.told.holds.get(a));
            is("room(" + a + ",1)", x.room(a, 1), model.inside(a));
            for (int b = 0; b < model.told.holds.size(); b++) {
                is("far(" + a + "," + b + ")", x.far(a, b), model.told.far(a, b));
            }
        }
        is("fire()", x.fire(), model.fire());
        for (int v = 0; v < model.visitors.size(); v++) {
            compareVisitor(v, model.visitors.get(v));
            compareLook(v);
        }
    }

    private void compareVisitor(int number, Model.Visitor v) {
        int[] due = model.toldOf(v);
        for (int what = 0; what < due.length; what++) {
            is("visitor(" + number + "," + what + ")", x.visitor(number, what), due[what]);
        }
    }

    private void compareLook(int v) {
        List<Integer> trace = new ArrayList<>();
        Model.Look look = model.look(v, trace);
        is("kind(" + v + ")", x.kind(v), Model.KINDS.indexOf(look.getClass()));
        for (int kind = 0; kind < 6; kind++) {
            boolean isOne = Model.KINDS.get(kind).isInstance(look);
            is("as(" + v + "," + kind + ")", x.as(v, kind), isOne ? v : Due.KIND);
            is("status()", x.status(), isOne ? 0 : 3);
        }
        for (int what = 0; what < 2; what++) {
            trace.clear();
            is("ask(" + v + "," + what + ")", x.ask(v, what), what == 0 ? look.size() : look.mark());
            for (int i = 0; i < 17; i++) {
                is("trace(" + i + ")", x.trace(i), i < trace.size() ? trace.get(i) : Due.NONE);
            }
        }
    }

    private void foretell() {
        int n = below(4) == 0 ? 1 + below(120) : 1 + below(25);
        for (int what = 0; what < 3; what++) {
            is("seen(" + n + "," + what + ")", x.seen(n, what), model.seen(n, what));
        }
        for (int of = 0; of < 2; of++) {
            for (int what = 0; what < 2; what++) {
                is("bestRule(" + n + "," + of + "," + what + ")", x.bestRule(n, of, what), model.bestRule(n, of, what));
            }
        }
        int group = below(model.told.groups.size());
        is("tickets(" + group + "," + n + ")", x.tickets(group, n), model.tickets(group, n));
        for (int d = 0; d < model.told.doors.size(); d++) {
            is("oneWay(" + d + "," + n + ")", x.oneWay(d, n), model.oneWay(d, n));
        }
        for (int p = 0; p < model.told.pictures.size(); p++) {
            is("picture(" + p + "," + n + ",0)", x.picture(p, n, 0), model.picture(p, n, 0));
            is("picture(" + p + "," + n + ",1)", x.picture(p, n, 1), model.picture(p, n, 1));
        }
        for (int place = -1; place < 5; place++) {
            is("hung(" + n + "," + place + ")", x.hung(n, place), model.hung(n, place));
        }
        foretellLaws();
        compare();
    }

    private void foretellLaws() {
        int lane = below(3), from = below(5);
        for (int room = 0; room < model.told.holds.size(); room++) {
            int n = 1 + below(35);
            int[] counts = likelyCounts(room, n);
            x.row(0, lane, from + n);
            for (int i = 0; i < n; i++) {
                x.set(0, from + i, counts[i]);
            }
            is("counts(" + room + ",0," + from + "," + n + ")", x.counts(room, 0, from, n), model.law(room, counts));
        }
        x.drop(0);
    }

    /** What a day by one law would bring, with a few slips. */
    private int[] likelyCounts(int room, int n) {
        Model.Told told = model.told.twin();
        String law = LAWS[below(3)];
        told.groups.replaceAll(g -> new Model.Group(g.many(), g.minute(), law, g.patience()));
        Model day = new Model(told);
        int[] counts = new int[n];
        Arrays.setAll(counts, i -> {
            day.minutes(1);
            return below(4) == 0 ? below(31) : day.inside(room);
        });
        return counts;
    }
}
