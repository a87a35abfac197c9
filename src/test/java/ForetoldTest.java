/** Promises 14 to 23 (seen, bestRule, tickets, oneWay, picture, hung, fire, counts, image, restore). */
public final class ForetoldTest {
    private static final int NONE = Due.NONE, BAD = Due.BAD, STATE = Due.STATE;
    private static final String ONE_ROOM = "rail 1 0;room 2;picture 0 20;group 3 0 first 1;";

    public static void main(String[] args) {
        withoutAHouse();
        daysAreSeen();
        rulesAreBest();
        ticketsAreBest();
        doorsGoOneWay();
        picturesAreCopiedOrGone();
        picturesAreHung();
        allGetOut();
        lawsAreFound();
        countsAreRefused();
        imagesAreKept();
        Due.end();
    }

    private static void withoutAHouse() {
        RailOfHeads x = new RailOfHeads();
        Due.is("seen, ahead of BAD", x.seen(0, 9), STATE);
        Due.is("bestRule, ahead of BAD", x.bestRule(0, 9, 9), STATE);
        Due.is("tickets", x.tickets(0, 1), BAD);
        Due.is("oneWay", x.oneWay(0, 1), BAD);
        Due.is("picture", x.picture(0, 1, 0), BAD);
        Due.is("hung, ahead of BAD", x.hung(0, -2), STATE);
        Due.is("fire", x.fire(), STATE);
        x.row(0, 0, 1);
        Due.is("counts", x.counts(0, 0, 0, 1), BAD);
        Due.is("image, BAD ahead", x.image(2), BAD);
        Due.is("image", x.image(1), STATE);
        Due.is("restore, BAD ahead", x.restore(-1), BAD);
        Due.is("restore", x.restore(1), STATE);
    }

    private static void daysAreSeen() {
        RailOfHeads x = Due.house(ONE_ROOM);
        x.go(3);
        Due.is("seen(1,0)", x.seen(1, 0), 0);
        Due.is("seen(2,0)", x.seen(2, 0), 280);
        Due.is("seen(5,0)", x.seen(5, 0), 1120);
        Due.is("seen(120,0)", x.seen(120, 0), 1120);
        Due.is("seen(120,1)", x.seen(120, 1), 0);
        Due.is("seen(120,2)", x.seen(120, 2), 0);
        Due.is("seen(0,0)", x.seen(0, 0), BAD);
        Due.is("seen(121,0)", x.seen(121, 0), BAD);
        Due.is("seen(1,3)", x.seen(1, 3), BAD);
        Due.is("seen(1,-1)", x.seen(1, -1), BAD);
        x.rule(2, 3);
        Due.is("by the rail and the guard as they are now", x.seen(120, 0), 1200);
        Due.is("nothing changes", x.count(6), 3);
        Due.is("nothing changes", x.visitor(0, 4), 400);
        x = Due.house("rail 1 0;room 2;picture 0 20;group 2 0 first 1;");
        Due.is("the least that one has", x.seen(120, 1), 320);
        x = Due.house("rail 9 0;room 9;room 1;door 0 1;picture 1 60;group 1 1 draw 0;group 1 0 draw 0;");
        Due.is("the first misses one", x.seen(120, 2), 1);
        Due.is("and sees nothing", x.seen(120, 1), 0);
        x = Due.house("rail 9 0;room 9;room 1;door 0 1;picture 1 60;picture 1 50;picture 0 9;group 3 0 draw 1;");
        Due.is("two wait", x.seen(2, 2), 0);
        Due.is("two miss one", x.seen(3, 2), 2);
        Due.is("two miss two", x.seen(4, 2), 4);
        Due.is("two miss two", x.seen(120, 2), 4);
    }

    private static void rulesAreBest() {
        RailOfHeads x = Due.house(ONE_ROOM);
        Due.is("rails", x.bestRule(5, 0, 0), 2);
        Due.is("rails, all the same", x.bestRule(1, 0, 0), 1);
        Due.is("rails, all the same", x.bestRule(5, 0, 1), 1);
        Due.is("guards", x.bestRule(5, 1, 0), 0);
        x.rule(1, 2);
        Due.is("rails with a guard", x.bestRule(5, 0, 0), 2);
        Due.is("seen is by the rail that is", x.seen(5, 0), 560);
        x = Due.house("rail 1 0;room 1;picture 0 30;group 1 0 first 0;group 1 4 first 0;");
        // with a guard of 3 the first one leaves in minute 4, ahead of the other
        Due.is("guards", x.bestRule(40, 1, 0), 3);
        Due.is("guards, by the least", x.bestRule(40, 1, 1), 3);
        x = Due.house("rail 1 0;room 1;picture 0 1;group 1 0 first 0;");
        Due.is("guards, of several the least", x.bestRule(9, 1, 0), 0);
        x = Due.house("rail 1 0;room 20;picture 0 60;group 20 0 first 0;");
        Due.is("rails, the last", x.bestRule(9, 0, 0), 20);
        Due.is("rails, the last, by the least", x.bestRule(9, 0, 1), 20);
        Due.is("n", x.bestRule(0, 0, 0), BAD);
        Due.is("n", x.bestRule(121, 0, 0), BAD);
        Due.is("of", x.bestRule(1, 2, 0), BAD);
        Due.is("of", x.bestRule(1, -1, 0), BAD);
        Due.is("what", x.bestRule(1, 0, 2), BAD);
        Due.is("what", x.bestRule(1, 0, -1), BAD);
    }

    private static void ticketsAreBest() {
        RailOfHeads x = Due.house("rail 1 0;room 1;picture 0 20;group 1 0 first 0;group 1 0 first 0;");
        Due.is("the second when the first has left", x.tickets(1, 20), 5);
        Due.is("the first behind the second", x.tickets(0, 20), 6);
        Due.is("too short a day", x.tickets(1, 6), 0);
        Due.is("the house is as told", x.seen(20, 0), 800);
        Due.is("group", x.tickets(2, 20), BAD);
        Due.is("group", x.tickets(-1, 20), BAD);
        Due.is("n", x.tickets(0, 0), BAD);
        Due.is("n", x.tickets(0, 121), BAD);
        x = Due.house("rail 1 0;room 1;picture 0 60;picture 0 60;picture 0 60;picture 0 60;picture 0 60;picture 0 60;"
                + "picture 0 60;picture 0 40;group 1 0 first 0;group 1 0 first 0;");
        // 7 times 8 and 6 minutes: he leaves in minute 63, so no minute up to 60 helps one without patience
        Due.is("never", x.tickets(1, 120), 0);
        x = Due.house("rail 1 0;room 1;picture 0 60;picture 0 60;picture 0 60;picture 0 60;picture 0 60;picture 0 60;"
                + "picture 0 60;picture 0 10;group 1 0 first 0;group 1 0 first 0;");
        Due.is("in the last minute", x.tickets(1, 120), 60);
    }

    private static void doorsGoOneWay() {
        RailOfHeads x = Due.house("rail 9 0;room 9;room 9;door 1 0;picture 1 10;picture 0 10;group 1 0 round 0;");
        Due.is("less", x.oneWay(0, 20), -300);
        Due.is("more", x.oneWay(0, 4), 100);
        Due.is("more", x.oneWay(0, 3), 200 - 100);
        Due.is("none", x.oneWay(0, 1), 0);
        Due.is("the house is as told", x.far(0, 1), 1);
        Due.is("the house is as told", x.seen(20, 0), 600);
        Due.is("door", x.oneWay(1, 20), BAD);
        Due.is("door", x.oneWay(-1, 20), BAD);
        Due.is("n", x.oneWay(0, 0), BAD);
        Due.is("n", x.oneWay(0, 121), BAD);
        x = Due.house("rail 9 0;room 9;room 9;door 0 1 one;picture 1 10;picture 0 10;group 1 0 round 0;");
        Due.is("it is one way", x.oneWay(0, 20), 0);
    }

    private static void picturesAreCopiedOrGone() {
        RailOfHeads x = Due.house(ONE_ROOM);
        Due.is("copy", x.picture(0, 5, 0), -280);
        Due.is("copy, ahead of the end", x.picture(0, 4, 0), 0);
        Due.is("without", x.picture(0, 5, 1), 1120);
        Due.is("the house is as told", x.seen(5, 0), 1120);
        Due.is("picture", x.picture(1, 5, 0), BAD);
        Due.is("picture", x.picture(-1, 5, 0), BAD);
        Due.is("n", x.picture(0, 0, 0), BAD);
        Due.is("n", x.picture(0, 121, 0), BAD);
        Due.is("what", x.picture(0, 5, 2), BAD);
        Due.is("what", x.picture(0, 5, -1), BAD);
        x = Due.house("rail 1 0;room 1;picture 0 20;group 1 0 first 0;group 1 4 first 0;");
        Due.is("a copy makes room", x.picture(0, 20, 0), 400);
        x = Due.house("rail 1 0;room 1;picture 0 1;picture 0 60;group 1 0 round 0;");
        Due.is("without what draws little", x.picture(0, 4, 1), 620 - 1800);
        Due.is("without what draws much", x.picture(1, 4, 1), 600);
        Due.is("a copy of what draws little", x.picture(0, 4, 0), 1210 - 620);
        x.rule(1, 1);
        Due.is("a copy where the guard sends on", x.picture(1, 4, 0), 0);
    }

    private static void picturesAreHung() {
        RailOfHeads x = Due.house("rail 9 0;room 9;room 9;door 0 1;picture 0 10;picture 1 60;group 1 0 draw 0;");
        Due.is("most", x.hung(5, -1), 2400);
        Due.is("p of 0", x.hung(5, 0), 1);
        Due.is("p of 1", x.hung(5, 1), 0);
        Due.is("p of 2", x.hung(5, 2), NONE);
        Due.is("p of most", x.hung(5, Due.MOST), NONE);
        Due.is("place", x.hung(5, -2), BAD);
        Due.is("n", x.hung(0, -1), BAD);
        Due.is("n, ahead of NONE", x.hung(121, 2), BAD);
        Due.is("the house is as told", x.seen(5, 0), 1800);
        x = Due.house("rail 9 0;room 9;room 9;door 0 1;picture 0 10;picture 1 60;group 1 0 round 0;");
        Due.is("most, of several the first", x.hung(5, -1), 300);
        Due.is("p of 0", x.hung(5, 0), 0);
        Due.is("p of 1", x.hung(5, 1), 1);
        x = Due.house("rail 9 0;room 9;room 9;room 9;door 0 1;door 1 2;picture 2 1;picture 0 2;picture 0 60;picture 1 50;"
                + "group 1 0 draw 0;");
        Due.is("nothing is seen in minute 0", x.hung(1, -1), 0);
        for (int k = 0; k < 4; k++) {
            Due.is("p of " + k, x.hung(1, k), k);
        }
        Due.is("the two that draw most stand in room 0", x.hung(14, -1), 600 * 8 + 500 * 5);
        int[] p = {0, 3, 1, 2};
        for (int k = 0; k < 4; k++) {
            Due.is("p of " + k, x.hung(14, k), p[k]);
        }
        x = Due.house("rail 9 0;room 9;" + "picture 0 1;".repeat(5) + "group 1 0 draw 0;");
        Due.is("more than 4", x.hung(5, -1), NONE);
        Due.is("more than 4", x.hung(5, 0), NONE);
        Due.is("BAD ahead", x.hung(0, 0), BAD);
        x = Due.house("rail 9 0;room 9;picture 0 1;group 1 0 draw 0;");
        Due.is("one", x.hung(5, -1), 20);
        Due.is("one", x.hung(5, 0), 0);
        Due.is("one", x.hung(5, 1), NONE);
    }

    private static void allGetOut() {
        RailOfHeads x = Due.house("rail 9 0;room 9;room 9;room 9;door 0 1;door 1 2 one;door 0 2;picture 2 60;picture 1 1;"
                + "group 1 0 first 0;group 1 0 round 0;");
        Due.is("nobody is in", x.fire(), 0);
        x.go(1);
        Due.is("in room 0", x.fire(), 1);
        x.go(1);
        Due.is("in room 2", x.fire(), 2);
        Due.is("nothing changes", x.count(7), 0);
        x.go(58);
        Due.is("all are out", x.count(7), 2);
        Due.is("nobody is in", x.fire(), 0);
        x = Due.house("rail 9 0;room 9;room 1;room 9;door 0 1;door 1 2;picture 2 60;group 3 0 first 9;");
        x.go(3);
        Due.is("whoever is in the rooms", x.fire(), 3);
        x = Due.house("rail 9 0;room 9;room 9;door 0 1 one;picture 1 60;group 1 0 first 0;");
        x.go(1);
        Due.is("in room 0", x.fire(), 1);
        x.go(1);
        Due.is("somebody cannot", x.fire(), NONE);
    }

    private static void fill(RailOfHeads x, int row, int from, int... items) {
        for (int i = 0; i < items.length; i++) {
            x.set(row, from + i, items[i]);
        }
    }

    private static void lawsAreFound() {
        RailOfHeads x = Due.house("rail 9 0;room 9;room 9;room 9;door 0 1;door 0 2;picture 1 10;picture 0 20;picture 2 60;"
                + "group 4 0 draw 0;");
        x.row(0, 1, 10);
        fill(x, 0, 2, 0, 0, 0, 0, 0, 0, 4, 4);
        Due.is("first", x.counts(2, 0, 2, 8), 0);
        fill(x, 0, 2, 0, 4, 4, 4, 4, 4, 4, 4);
        Due.is("draw", x.counts(2, 0, 2, 8), 1);
        fill(x, 0, 2, 0, 0, 0, 0, 0, 0, 0, 0);
        Due.is("round", x.counts(2, 0, 2, 8), 2);
        Due.is("of several the least", x.counts(2, 0, 2, 1), 0);
        fill(x, 0, 2, 0, 0, 0, 0, 0, 0, 2, 2);
        Due.is("as far off by first as by round", x.counts(2, 0, 2, 8), 0);
        fill(x, 0, 2, 0, 0, 0, 0, 0, 0, 2, 1);
        Due.is("less far off by round", x.counts(2, 0, 2, 8), 2);
        // in room 0 all stand behind minute 0, and by round again behind minutes 5, 6
        fill(x, 0, 0, 4, 0, 0, 0, 0, 4, 4);
        Due.is("round, in room 0", x.counts(0, 0, 0, 7), 2);
        fill(x, 0, 0, 4, 0, 0, 0, 0, 4, 0);
        Due.is("first, in room 0", x.counts(0, 0, 0, 7), 0);
        fill(x, 0, 0, 0, 0, 0, 0, 4, 0, 0);
        Due.is("a minute off", x.counts(0, 0, 0, 7), 1);
        fill(x, 0, 2, 0, 30, 30, 30, 30, 0, 0, 0);
        Due.is("far off", x.counts(2, 0, 2, 8), 1);
        Due.is("nothing changes", x.count(6), 0);
        x.go(1);
        Due.is("nothing changes", x.visitor(0, 7), 2);
    }

    private static void countsAreRefused() {
        RailOfHeads x = Due.house(ONE_ROOM);
        x.row(0, 2, 3);
        Due.is("room", x.counts(1, 0, 0, 1), BAD);
        Due.is("room", x.counts(-1, 0, 0, 1), BAD);
        Due.is("row", x.counts(0, 8, 0, 1), BAD);
        Due.is("row", x.counts(0, -1, 0, 1), BAD);
        Due.is("n", x.counts(0, 1, 0, 0), BAD);
        Due.is("n, ahead of NULL", x.counts(0, 1, 0, 41), BAD);
        Due.is("a missing row", x.counts(0, 1, 0, 1), Due.NULL);
        Due.is("status", x.status(), 1);
        Due.is("beyond", x.counts(0, 0, 1, 3), Due.PLACE);
        Due.is("beyond", x.counts(0, 0, 3, 1), Due.PLACE);
        Due.is("beyond", x.counts(0, 0, Due.MOST, 40), Due.PLACE);
        Due.is("below", x.counts(0, 0, -1, 2), Due.PLACE);
        Due.is("status", x.status(), 2);
        x.set(0, 0, 31);
        x.set(0, 2, -1);
        Due.is("PLACE, ahead of an item", x.counts(0, 0, 0, 4), Due.PLACE);
        Due.is("an item of 31", x.counts(0, 0, 0, 2), BAD);
        Due.is("an item of -1", x.counts(0, 0, 1, 2), BAD);
        Due.is("status stays", x.status(), 2);
        Due.is("between them", x.counts(0, 0, 1, 1), 0);
        Due.is("status", x.status(), 0);
        x.set(0, 0, 30);
        Due.is("an item of 30", x.counts(0, 0, 0, 2), 0);
        x.row(1, 0, 40);
        Due.is("40 of them", x.counts(0, 1, 0, 40), 0);
    }

    private static void imagesAreKept() {
        RailOfHeads x = Due.house(ONE_ROOM);
        x.go(2);
        x.rule(1, 2);
        Due.is("image(0)", x.image(0), 1);
        Due.is("image(2)", x.image(2), BAD);
        Due.is("image(-1)", x.image(-1), BAD);
        Due.is("restore(2)", x.restore(2), BAD);
        Due.is("restore(1)", x.restore(1), STATE);
        x.go(1);
        x.rule(5, 0);
        Due.is("image(1)", x.image(1), 1);
        Due.read(x, "rail 1 0;room 1;room 1;door 0 1;picture 0 1;group 1 0 first 0;");
        x.row(0, 0, 7);
        x.feed(0, 3);
        x.ask(0, 1);
        Due.is("restore(0)", x.restore(0), 1);
        Due.is("rooms", x.count(1), 1);
        Due.is("doors", x.count(2), 0);
        Due.is("minutes", x.count(6), 2);
        Due.is("out", x.count(7), 1);
        Due.is("rows stay", x.count(0), 1);
        Due.is("the tape stays", x.count(8), 3);
        Due.is("the trace stays", x.trace(0), 23);
        Due.is("saw", x.visitor(1, 4), 80);
        Due.is("kind", x.kind(1), 2);
        Due.is("guard", x.seen(120, 0), 560);
        x.go(1);
        Due.is("done", x.visitor(1, 5), 1);
        Due.is("restore(0) again", x.restore(0), 1);
        Due.is("saw", x.visitor(1, 4), 80);
        Due.is("done", x.visitor(1, 5), 0);
        Due.is("restore(1)", x.restore(1), 1);
        Due.is("minutes", x.count(6), 3);
        Due.is("guard", x.seen(120, 0), 1600);
        Due.is("image(1) in place of the other", x.image(0), 1);
        x.go(9);
        x.restore(0);
        Due.is("minutes", x.count(6), 3);
        visitorsAreKept();
    }

    private static void visitorsAreKept() {
        RailOfHeads x = Due.house("rail 9 0;room 9;room 1;door 0 1;picture 1 60;picture 0 9;group 2 0 first 1;group 1 1 draw 7;");
        x.go(4);
        int[][] due = {
            {0, 1, 0, 1, 1200, 0, 0, 0, 2}, {0, 0, 0, 0, 90, 1, 1, 1, 1}, {1, 0, 0, 5, 0, 0, 0, 0, 0}};
        visitorsAre(x, due);
        x.image(0);
        Due.read(x, "rail 1 0;room 9;picture 0 9;group 1 0 draw 20;group 9 0 draw 20;");
        x.go(3);
        x.restore(0);
        visitorsAre(x, due);
        Due.is("room(0,1)", x.room(0, 1), 2);
        Due.is("room(1,1)", x.room(1, 1), 1);
        Due.is("a house anew", Due.read(x, "rail 9 0;room 9;picture 0 9;group 3 0 first 1;"), 3);
        Due.is("missed", x.visitor(1, 6), 0);
        Due.is("out", x.count(7), 0);
    }

    private static void visitorsAre(RailOfHeads x, int[][] due) {
        for (int v = 0; v < due.length; v++) {
            for (int what = 0; what < 9; what++) {
                Due.is("visitor(" + v + "," + what + ")", x.visitor(v, what), due[v][what]);
            }
        }
    }
}
