import java.util.function.IntFunction;
import java.util.function.ToIntFunction;

/** Boundaries of promises 14 to 23: seen, bestRule, tickets, oneWay, picture, hung, fire, counts, image, restore. */
final class ForetoldBounds {
    private static final int NONE = Due.NONE, BAD = Due.BAD, STATE = Due.STATE, NULL = Due.NULL, PLACE = Due.PLACE;
    private static final int LEAST = Due.LEAST, MOST = Due.MOST;
    private static final int[] NO_DAYS = {0, 121, -1, LEAST, MOST};
    private static final String EIGHT_PICTURES = "picture 0 60;".repeat(8);

    // one comes in minute 60 and sees 600 in each minute from 61 on, beyond the longest day
    private static final String LATE = "rail 1 0;room 1;" + EIGHT_PICTURES + "group 1 60 round 0;";

    private ForetoldBounds() {
    }

    private static void daysAreRefused(String call, IntFunction<ToIntFunction<RailOfHeads>> ofDay) {
        for (int n : NO_DAYS) {
            Bounds.refused(call + " of " + n + " minutes", BAD, ofDay.apply(n));
        }
        Bounds.changesNothing(call + " of 1 minute", 5, ofDay.apply(1));
        Bounds.changesNothing(call + " of 120 minutes", 5, ofDay.apply(120));
    }

    // ---- promise 14

    @Says("n MINUTES (1 to 120)")
    static void promise14_n1To120() {
        daysAreRefused("seen", n -> x -> x.seen(n, 0));
        daysAreRefused("seen", n -> x -> x.seen(n, 2));
        RailOfHeads x = Due.house(LATE);
        int[] days = {1, 60, 61, 62, 119, 120};
        int[] due = {0, 0, 0, 600, 34800, 35400};
        for (int i = 0; i < days.length; i++) {
            Due.is("seen(" + days[i] + ",0)", x.seen(days[i], 0), due[i]);
        }
    }

    @Says("SEEN of a DAY of n MINUTES (what 0, 1, 2). BAD")
    static void promise14_what0To2() {
        for (int what : new int[] {-1, 3, LEAST, MOST}) {
            Bounds.refused("seen(1," + what + ")", BAD, x -> x.seen(1, what));
        }
    }

    @Says("FORETOLD (nothing changes)")
    static void promise14_nothingChanges() {
        for (int what = 0; what < 3; what++) {
            int w = what;
            Bounds.changesNothing("seen(30," + w + ")", 5, x -> x.seen(30, w));
        }
    }

    @Says("STATE: no HOUSE (ahead of BAD)")
    static void promise14_noHouse() {
        Bounds.refusedBare("seen(1,0)", STATE, x -> x.seen(1, 0));
        Bounds.refusedBare("seen(0,0)", STATE, x -> x.seen(0, 0));
        Bounds.refusedBare("seen(1,3)", STATE, x -> x.seen(1, 3));
    }

    @Says("the least that one has (1)")
    static void promise14_theLeastThatOneHas() {
        RailOfHeads x = Due.house("rail 1 0;room 9;picture 0 10;group 2 0 draw 0;group 1 5 draw 0;");
        int[] days = {1, 6, 7, 8, 9, 120};
        int[] due = {0, 0, 100, 120, 120, 120};
        for (int i = 0; i < days.length; i++) {
            Due.is("seen(" + days[i] + ",1)", x.seen(days[i], 1), due[i]);
        }
        Due.is("seen(120,0)", x.seen(120, 0), 300 + 120 + 300);
        Due.is("the only one", Due.house(LATE).seen(120, 1), 35400);
    }

    @Says("how many PICTURES were MISSED (2)")
    static void promise14_howManyWereMissed() {
        RailOfHeads x = Due.house("rail 9 0;room 9;room 1;door 0 1;picture 1 60;picture 0 9;group 3 0 first 0;");
        Due.is("seen(1,2)", x.seen(1, 2), 0);
        Due.is("seen(2,2), each of two", x.seen(2, 2), 2);
        x = Due.house("rail 9 0;room 1;picture 0 60;group 2 0 first 0;");
        Due.is("who gives up ahead of the door has missed none", x.seen(120, 2), 0);
        x = Due.house("rail 9 0;room 9;room 1;door 0 1;picture 1 60;group 1 1 draw 0;group 1 0 draw 0;");
        Due.is("seen(2,2), the first of them is to wait", x.seen(2, 2), 0);
        Due.is("seen(3,2), the first of them", x.seen(3, 2), 1);
        x = Due.house("rail 9 0;room 40;room 1;door 0 1;picture 1 60;group 20 0 draw 0;group 10 0 draw 0;");
        Due.is("seen(2,2), 29 of 30", x.seen(2, 2), 29);
    }

    @Says("the HOUSE as told (RAIL, GUARD as they are now) from MINUTE 0 on")
    static void promise14_fromMinute0On() {
        RailOfHeads x = Due.house("rail 1 0;room 9;picture 0 60;group 2 0 draw 0;");
        Due.is("seen(2,0)", x.seen(2, 0), 840);
        x.go(60);
        Due.is("seen(2,0), when all are out", x.seen(2, 0), 840);
        x.rule(2, 0);
        Due.is("seen(2,0), by another rail", x.seen(2, 0), 1200);
        x.rule(2, 1);
        Due.is("seen(120,0), by a guard", x.seen(120, 0), 1200);
    }

    @Says("SEEN: of all VISITORS together (what = 0)")
    static void promise14_ofAllTogether() {
        RailOfHeads x = Due.house("rail 20 0;room 40;picture 0 1;" + "group 5 0 draw 0;".repeat(6));
        Due.is("seen(1,0)", x.seen(1, 0), 0);
        Due.is("seen(2,0)", x.seen(2, 0), 20 * 10 + 10 * 4);
        Due.is("seen(3,0)", x.seen(3, 0), 2 * (20 * 10 + 10 * 4));
        Due.is("seen(120,0)", x.seen(120, 0), 2 * (20 * 10 + 10 * 4));
    }

    // ---- promise 15

    @Says("n MINUTES (1 to 120)")
    static void promise15_n1To120() {
        for (int of = 0; of < 2; of++) {
            int o = of;
            daysAreRefused("bestRule by " + o, n -> x -> x.bestRule(n, o, 1));
        }
        RailOfHeads x = Due.house("rail 1 0;room 9;picture 0 60;group 9 0 draw 0;");
        Due.is("rails of 1 minute", x.bestRule(1, 0, 0), 1);
        Due.is("rails of 2 minutes", x.bestRule(2, 0, 0), 9);
        Due.is("rails of 120 minutes", x.bestRule(120, 0, 0), 9);
    }

    @Says("RAILS (of = 0), GUARDS (1) by SEEN what (0, 1). BAD")
    static void promise15_ofAndWhat0To1() {
        for (int k : new int[] {-1, 2, LEAST, MOST}) {
            Bounds.refused("bestRule(9," + k + ",0)", BAD, x -> x.bestRule(9, k, 0));
            Bounds.refused("bestRule(9,0," + k + ")", BAD, x -> x.bestRule(9, 0, k));
        }
    }

    @Says("FORETOLD (nothing changes)")
    static void promise15_nothingChanges() {
        for (int of = 0; of < 2; of++) {
            for (int what = 0; what < 2; what++) {
                int o = of, w = what;
                Bounds.changesNothing("bestRule(40," + o + "," + w + ")", 5, x -> x.bestRule(40, o, w));
            }
        }
    }

    @Says("STATE: no HOUSE (ahead of BAD)")
    static void promise15_noHouse() {
        Bounds.refusedBare("bestRule(1,0,0)", STATE, x -> x.bestRule(1, 0, 0));
        Bounds.refusedBare("bestRule(0,0,0)", STATE, x -> x.bestRule(0, 0, 0));
        Bounds.refusedBare("bestRule(1,2,2)", STATE, x -> x.bestRule(1, 2, 2));
    }

    @Says("RAILS: the RAIL 1 to 20 by which SEEN (0, 1) is most, of several the least.")
    static void promise15_rails1To20() {
        for (int many : new int[] {1, 2, 19, 20}) {
            RailOfHeads x = Due.house("rail 5 0;room 40;picture 0 60;group " + many + " 0 draw 0;");
            Due.is("rails, " + many + " look", x.bestRule(20, 0, 0), many);
            Due.is("rails by the least, " + many + " look", x.bestRule(20, 0, 1), many);
        }
        RailOfHeads x = Due.house("rail 5 0;room 40;picture 0 60;group 20 0 draw 0;group 10 0 draw 0;");
        Due.is("rails, 30 look", x.bestRule(20, 0, 0), 20);
        Due.is("rails by the least, one looks over heads by each", x.bestRule(20, 0, 1), 1);
    }

    @Says("GUARDS: the GUARD 0 to 20, likewise.")
    static void promise15_guards0To20() {
        RailOfHeads x = Due.house("rail 5 9;room 9;picture 0 60;group 1 0 draw 0;");
        Due.is("8 to 20 are as none", x.bestRule(20, 1, 0), 0);
        // the second comes in if the first has looked for 7 minutes at most
        x = Due.house("rail 5 0;room 1;picture 0 60;group 1 0 draw 0;group 1 8 draw 0;");
        Due.is("guards", x.bestRule(40, 1, 0), 7);
        Due.is("guards by the least", x.bestRule(40, 1, 1), 7);
        x = Due.house("rail 5 0;room 1;picture 0 60;group 1 0 draw 0;group 1 3 draw 0;");
        Due.is("guards, most for one alone", x.bestRule(40, 1, 0), 0);
        Due.is("guards by the least, two minutes for both", x.bestRule(40, 1, 1), 2);
        x = Due.house("rail 5 0;room 1;picture 0 60;group 1 0 draw 0;group 1 2 draw 0;");
        Due.is("guards by the least, one minute for both", x.bestRule(40, 1, 1), 1);
    }

    @Says("(RAIL, GUARD as they are now)")
    static void promise15_asTheyAreNow() {
        RailOfHeads x = Due.house("rail 1 0;room 9;picture 0 60;group 1 0 draw 0;group 1 1 draw 0;");
        Due.is("rails", x.bestRule(40, 0, 0), 2);
        x.rule(1, 1);
        Due.is("rails by a guard, when one has gone on as the other comes", x.bestRule(40, 0, 0), 1);
        afterAnother(x);
        Due.is("rails of a house that was kept", x.bestRule(40, 0, 0), 1);
        x.rule(5, 2);
        afterAnother(x);
        Due.is("guards of a house that was kept", x.bestRule(40, 1, 0), 0);
    }

    // ---- promise 16

    @Says("n MINUTES (1 to 120)")
    static void promise16_n1To120() {
        daysAreRefused("tickets", n -> x -> x.tickets(1, n));
        RailOfHeads x = Due.house(LATE);
        Due.is("tickets(0,1)", x.tickets(0, 1), 0);
        Due.is("tickets(0,120)", x.tickets(0, 120), 0);
    }

    @Says("TICKETS. BAD.")
    static void promise16_noSuchGroup() {
        for (int group : new int[] {-1, 2, 6, LEAST, MOST}) {
            Bounds.refused("tickets(" + group + ",9)", BAD, x -> x.tickets(group, 9));
        }
        Bounds.refusedBare("tickets(0,9) without a house", BAD, x -> x.tickets(0, 9));
        RailOfHeads x = Due.house("rail 1 0;room 9;picture 0 9;" + "group 1 0 draw 0;".repeat(6));
        Due.is("tickets(6,9)", x.tickets(6, 9), BAD);
        Due.is("tickets(5,9), when the others look no more", x.tickets(5, 9), 2);
    }

    @Says("FORETOLD (nothing changes)")
    static void promise16_nothingChanges() {
        Bounds.changesNothing("tickets(0,40)", 5, x -> x.tickets(0, 40));
        Bounds.changesNothing("tickets(1,40)", 5, x -> x.tickets(1, 40));
    }

    /** The first leaves in minute 1 more than he looks; the second has no patience. */
    private static RailOfHeads oneAtATime(String lastPictures) {
        return Due.house("rail 1 0;room 1;" + "picture 0 60;".repeat(7) + lastPictures + "group 1 0 first 0;group 1 0 first 0;");
    }

    @Says("TICKETS: the MINUTE 0 to 60 of a GROUP, likewise by SEEN 0.")
    static void promise16_minute0To60() {
        Due.is("he leaves in minute 59", oneAtATime("picture 0 1;").tickets(1, 120), 59);
        Due.is("he leaves in minute 60", oneAtATime("picture 0 10;").tickets(1, 120), 60);
        Due.is("he leaves in minute 61", oneAtATime("picture 0 20;").tickets(1, 120), 0);
        Due.is("of several the least", oneAtATime("picture 0 10;").tickets(1, 60), 0);
    }

    @Says("(RAIL, GUARD as they are now)")
    static void promise16_asTheyAreNow() {
        RailOfHeads x = Due.house("rail 1 0;room 1;picture 0 60;group 1 0 draw 0;group 1 0 draw 0;");
        Due.is("tickets(1,40)", x.tickets(1, 40), 9);
        x.rule(1, 2);
        Due.is("tickets(1,40) by a guard", x.tickets(1, 40), 3);
        afterAnother(x);
        Due.is("tickets(1,40) of a house that was kept", x.tickets(1, 40), 3);
    }

    /** An image is kept, another house is read, and the image put back. */
    private static void afterAnother(RailOfHeads x) {
        x.image(1);
        Due.read(x, "rail 7 7;" + "room 7;".repeat(3) + "door 2 1;picture 0 7;picture 1 7;picture 0 7;group 7 7 round 7;group 7 7 draw 7;");
        Due.is("restore(1)", x.restore(1), 1);
    }

    // ---- promise 17

    @Says("n MINUTES (1 to 120)")
    static void promise17_n1To120() {
        daysAreRefused("oneWay", n -> x -> x.oneWay(0, n));
    }

    @Says("ONE WAY. BAD.")
    static void promise17_noSuchDoor() {
        for (int door : new int[] {-1, 1, 9, LEAST, MOST}) {
            Bounds.refused("oneWay(" + door + ",9)", BAD, x -> x.oneWay(door, 9));
        }
        Bounds.refusedBare("oneWay(0,9) without a house", BAD, x -> x.oneWay(0, 9));
        RailOfHeads x = Due.house("rail 1 0;room 9;room 9;" + "door 0 1 one;".repeat(8) + "door 1 0;picture 1 9;group 1 0 draw 0;");
        Due.is("oneWay(8,9)", x.oneWay(8, 9), 0);
        Due.is("oneWay(9,9)", x.oneWay(9, 9), BAD);
        x = Due.house("rail 1 0;room 9;picture 0 9;group 1 0 draw 0;");
        Due.is("a house without doors", x.oneWay(0, 9), BAD);
    }

    @Says("FORETOLD (nothing changes)")
    static void promise17_nothingChanges() {
        Bounds.changesNothing("oneWay(0,40)", 5, x -> x.oneWay(0, 40));
    }

    @Says("ONE WAY: how much more SEEN 0 is, if a DOOR leads from A to B alone.")
    static void promise17_moreOrLessOrNone() {
        RailOfHeads x = Due.house("rail 9 0;room 9;room 9;door 1 0;picture 1 10;picture 0 10;group 1 0 round 0;");
        int[] days = {1, 2, 3, 4, 5, 6, 7, 120};
        int[] asTold = {0, 0, 100, 200, 300, 300, 400, 600};
        int[] oneWay = {0, 100, 200, 300, 300, 300, 300, 300};
        for (int i = 0; i < days.length; i++) {
            Due.is("seen(" + days[i] + ",0)", x.seen(days[i], 0), asTold[i]);
            Due.is("oneWay(0," + days[i] + ")", x.oneWay(0, days[i]), oneWay[i] - asTold[i]);
        }
        x = Due.house("rail 9 0;room 9;room 9;door 1 0;door 0 1 one;picture 1 10;picture 0 10;group 1 0 round 0;");
        Due.is("by another door", x.oneWay(0, 120), 0);
        Due.is("it is one way", x.oneWay(1, 120), 0);
        x = Due.house("rail 9 0;room 9;room 9;door 1 0;picture 1 10;picture 0 10;group 3 0 round 0;");
        Due.is("of all together", x.oneWay(0, 120), -900);
        x.rule(9, 1);
        afterAnother(x);
        Due.is("by a guard, of a house that was kept", x.oneWay(0, 120), -300);
    }

    // ---- promise 18

    @Says("n MINUTES (1 to 120)")
    static void promise18_n1To120() {
        daysAreRefused("copy", n -> x -> x.picture(0, n, 0));
        daysAreRefused("without", n -> x -> x.picture(0, n, 1));
    }

    @Says("COPY (what = 0), WITHOUT (1). BAD.")
    static void promise18_noSuchPicture() {
        for (int picture : new int[] {-1, 2, 8, LEAST, MOST}) {
            Bounds.refused("picture(" + picture + ",9,0)", BAD, x -> x.picture(picture, 9, 0));
            Bounds.refused("picture(" + picture + ",9,1)", BAD, x -> x.picture(picture, 9, 1));
        }
        Bounds.refusedBare("picture(0,9,0) without a house", BAD, x -> x.picture(0, 9, 0));
        RailOfHeads x = Due.house("rail 1 0;room 1;" + EIGHT_PICTURES + "group 1 0 round 0;");
        Due.is("picture(7,120,0)", x.picture(7, 120, 0), -600);
        Due.is("picture(7,120,1)", x.picture(7, 120, 1), 4800);
        Due.is("picture(8,120,0)", x.picture(8, 120, 0), BAD);
    }

    @Says("COPY (what = 0), WITHOUT (1). BAD.")
    static void promise18_what0To1() {
        for (int what : new int[] {-1, 2, LEAST, MOST}) {
            Bounds.refused("picture(0,9," + what + ")", BAD, x -> x.picture(0, 9, what));
        }
    }

    @Says("FORETOLD (nothing changes)")
    static void promise18_nothingChanges() {
        for (int p = 0; p < 2; p++) {
            int picture = p;
            Bounds.changesNothing("picture(" + p + ",40,0)", 5, x -> x.picture(picture, 40, 0));
            Bounds.changesNothing("picture(" + p + ",40,1)", 5, x -> x.picture(picture, 40, 1));
        }
    }

    @Says("the 2 and DRAW by 10 MINUTES for it are one less")
    static void promise18_oneMinuteLess() {
        for (int draw : new int[] {1, 9, 10, 60}) {
            RailOfHeads x = Due.house("rail 9 0;room 9;picture 0 " + draw + ";group 1 0 draw 0;");
            int minutes = 2 + draw / 10;
            Due.is("copy of " + draw, x.picture(0, 120, 0), -10 * draw);
            Due.is("copy of " + draw + ", in a day as long as he looks", x.picture(0, minutes + 1, 0), -10 * draw);
            Due.is("copy of " + draw + ", in a shorter day", x.picture(0, minutes, 0), 0);
            x.rule(9, minutes - 1);
            Due.is("copy of " + draw + ", by a guard who is as quick", x.picture(0, 120, 0), 0);
            x.rule(9, minutes);
            Due.is("copy of " + draw + ", by a guard who is slower", x.picture(0, 120, 0), -10 * draw);
        }
        RailOfHeads x = Due.house("rail 9 0;room 9;picture 0 60;group 3 0 draw 0;");
        Due.is("of all together", x.picture(0, 120, 0), -1800);
        x.rule(1, 0);
        afterAnother(x);
        Due.is("by another rail, of a house that was kept", x.picture(0, 120, 0), -600 - 240 - 240);
    }

    @Says("WITHOUT: all have done with a PICTURE from the beginning on, not having seen it: how much less SEEN 0 is.")
    static void promise18_withoutIt() {
        RailOfHeads x = Due.house("rail 9 0;room 9;picture 0 60;group 1 0 first 0;");
        Due.is("the only one", x.picture(0, 120, 1), 4800);
        Due.is("the only one, in a day of 1 minute", x.picture(0, 1, 1), 0);
        x = Due.house("rail 9 0;room 9;room 9;picture 0 60;picture 1 60;group 1 0 first 0;");
        Due.is("one that nobody can get to", x.picture(1, 120, 1), 0);
        x = Due.house("rail 9 0;room 9;picture 0 1;picture 0 60;group 1 0 first 0;");
        Due.is("more is seen without it", x.picture(0, 3, 1), 20 - 1200);
        x = Due.house("rail 9 0;room 9;picture 0 60;picture 0 10;group 3 0 draw 0;");
        Due.is("of all together", x.picture(0, 120, 1), 3 * 4800);
        Due.is("of all together, the other", x.picture(1, 120, 1), 3 * 300);
    }

    // ---- promise 19

    @Says("n MINUTES (1 to 120)")
    static void promise19_n1To120() {
        daysAreRefused("hung", n -> x -> x.hung(n, -1));
        daysAreRefused("hung", n -> x -> x.hung(n, 1));
    }

    @Says("SEEN 0 (place = -1), p of a place; NONE: not so many; there are more than 4. BAD: place below -1")
    static void promise19_places() {
        Bounds.refused("hung(9,-2)", BAD, x -> x.hung(9, -2));
        Bounds.refused("hung(9,least)", BAD, x -> x.hung(9, LEAST));
        Bounds.refused("hung(9,2), of two", NONE, x -> x.hung(9, 2));
        Bounds.refused("hung(9,most)", NONE, x -> x.hung(9, MOST));
        Bounds.refused("hung(0,2), BAD ahead of NONE", BAD, x -> x.hung(0, 2));
        for (int pictures = 1; pictures <= 4; pictures++) {
            RailOfHeads x = Due.house("rail 9 0;room 9;" + "picture 0 60;".repeat(pictures) + "group 1 0 draw 0;");
            Due.is("hung(120,-1) of " + pictures, x.hung(120, -1), 4800 * pictures);
            for (int place = 0; place < pictures; place++) {
                Due.is("hung(120," + place + ") of " + pictures, x.hung(120, place), place);
            }
            Due.is("hung(120," + pictures + ") of " + pictures, x.hung(120, pictures), NONE);
        }
    }

    @Says("FORETOLD (nothing changes)")
    static void promise19_nothingChanges() {
        for (int place = -1; place < 2; place++) {
            int p = place;
            Bounds.changesNothing("hung(40," + p + ")", 5, x -> x.hung(40, p));
        }
    }

    @Says("PICTURES (4 at most) are hung anew")
    static void promise19_moreThan4() {
        for (int pictures : new int[] {5, 8}) {
            RailOfHeads x = Due.house("rail 9 0;room 9;" + "picture 0 60;".repeat(pictures) + "group 1 0 draw 0;");
            for (int place : new int[] {-1, 0, 3, 4, 7, 8}) {
                Due.is("hung(9," + place + ") of " + pictures, x.hung(9, place), NONE);
            }
            Due.is("hung(0,0) of " + pictures, x.hung(0, 0), BAD);
            Due.is("hung(9,-2) of " + pictures, x.hung(9, -2), BAD);
        }
    }

    @Says("STATE: no HOUSE (ahead of BAD)")
    static void promise19_noHouse() {
        Bounds.refusedBare("hung(1,0)", STATE, x -> x.hung(1, 0));
        Bounds.refusedBare("hung(0,0)", STATE, x -> x.hung(0, 0));
        Bounds.refusedBare("hung(1,-2)", STATE, x -> x.hung(1, -2));
    }

    @Says("each p once: the p of most SEEN 0, of several the first by p of 0, then of 1, ..")
    static void promise19_ofSeveralTheFirst() {
        // only what hangs in room 0 is seen in minute 1: 3 hangs there best, whatever the others do
        RailOfHeads x = Due.house("rail 9 0;room 9;room 9;room 9;room 9;door 0 1;door 0 2;door 0 3;"
                + "picture 0 1;picture 1 2;picture 2 3;picture 3 60;group 1 0 draw 0;");
        int[] due = {1, 2, 3, 0};
        Due.is("hung(2,-1)", x.hung(2, -1), 600);
        for (int place = 0; place < 4; place++) {
            Due.is("hung(2," + place + ")", x.hung(2, place), due[place]);
            Due.is("hung(1," + place + "), nothing is seen", x.hung(1, place), place);
        }
        Due.is("the house is as told", x.seen(2, 0), 0);
    }

    @Says("the p of most SEEN 0")
    static void promise19_ofAllTogether() {
        RailOfHeads x = Due.house("rail 9 0;room 9;room 9;picture 1 60;picture 0 10;group 2 0 draw 0;group 1 60 draw 0;");
        Due.is("seen(40,0)", x.seen(40, 0), 600);
        Due.is("hung(40,-1)", x.hung(40, -1), 9600);
        Due.is("hung(40,0)", x.hung(40, 0), 1);
        Due.is("hung(40,1)", x.hung(40, 1), 0);
        x.rule(9, 1);
        afterAnother(x);
        Due.is("hung(40,-1) by a guard, of a house that was kept", x.hung(40, -1), 1200);
        Due.is("hung(40,0) by a guard, of a house that was kept", x.hung(40, 0), 1);
    }

    // ---- promise 20

    @Says("FIRE; NONE. STATE: no HOUSE.")
    static void promise20_noHouse() {
        Bounds.refusedBare("fire()", STATE, RailOfHeads::fire);
    }

    @Says("FORETOLD (nothing changes)")
    static void promise20_nothingChanges() {
        Bounds.changesNothing("fire()", 5, RailOfHeads::fire);
    }

    @Says("how many minutes till all are out (0: nobody is in)")
    static void promise20_nobodyIsIn() {
        RailOfHeads x = Due.house("rail 9 0;room 1;picture 0 1;group 1 1 draw 0;");
        int[] due = {0, 0, 1, 1, 1, 0};
        for (int minute = 0; minute < due.length; minute++) {
            Due.is("fire() behind " + minute + " minutes", x.fire(), due[minute]);
            x.go(1);
        }
    }

    @Says("goes to ROOM 0 by the fewest DOORS, one a minute, and out in one more, whoever is in the ROOMS")
    static void promise20_fiveDoorsAndOneMore() {
        RailOfHeads x = Due.house("rail 9 0;" + "room 1;".repeat(6) + "door 0 1;door 1 2;door 2 3;door 3 4;door 4 5;"
                + "picture 5 60;group 2 0 draw 9;");
        for (int minute = 1; minute <= 6; minute++) {
            x.go(1);
            Due.is("fire() behind " + minute + " minutes", x.fire(), minute);
        }
        x = Due.house("rail 9 0;room 9;room 9;room 9;door 0 1 one;door 1 2 one;door 2 0 one;picture 1 60;group 9 0 draw 9;");
        x.go(2);
        Due.is("the only way is round", x.fire(), 3);
        x = Due.house("rail 9 0;room 40;room 9;door 0 1;picture 1 60;" + "group 5 0 draw 9;".repeat(6));
        x.go(1);
        Due.is("30 are in room 0", x.fire(), 1);
        x.go(1);
        Due.is("9 are in room 1", x.fire(), 2);
    }

    @Says("NONE: somebody cannot")
    static void promise20_somebodyCannot() {
        RailOfHeads x = Due.house("rail 9 0;room 9;room 9;door 0 1 one;picture 1 60;picture 0 1;group 1 0 draw 0;group 1 0 round 0;"
                + "group 3 0 draw 0;");
        x.go(1);
        Due.is("all are in room 0", x.fire(), 1);
        x.go(1);
        Due.is("they are in room 1", x.fire(), NONE);
        x = Due.house("rail 9 0;room 9;room 1;door 0 1 one;picture 1 60;picture 0 60;group 4 0 first 0;");
        x.go(2);
        Due.is("one of four cannot", x.fire(), NONE);
    }

    // ---- promise 21

    @Says("BAD: ROOM, ROW, n (also no HOUSE); NULL; PLACE; then BAD: an ITEM not 0 to 30.")
    static void promise21_noSuchRoom() {
        for (int room : new int[] {-1, 2, 6, LEAST, MOST}) {
            Bounds.refused("counts(" + room + ",0,0,1)", BAD, x -> x.counts(room, 0, 0, 1));
            Bounds.refused("counts(" + room + ",4,-1,1), ahead of findings", BAD, x -> x.counts(room, 4, -1, 1));
        }
    }

    @Says("FORETOLD (nothing changes)")
    static void promise21_nothingChanges() {
        Bounds.changesNothing("counts(0,0,0,1)", 0, x -> x.counts(0, 0, 0, 1));
        Bounds.changesNothing("counts(1,0,0,1)", 0, x -> x.counts(1, 0, 0, 1));
    }

    @Says("BAD: ROOM, ROW, n (also no HOUSE)")
    static void promise21_noSuchRow() {
        for (int row : new int[] {-1, 8, LEAST, MOST}) {
            Bounds.refused("counts(0," + row + ",0,1)", BAD, x -> x.counts(0, row, 0, 1));
        }
        RailOfHeads x = Due.house(LATE);
        x.row(7, 0, 1);
        Due.is("counts(0,7,0,1)", x.counts(0, 7, 0, 1), 0);
    }

    @Says("BAD: ROOM, ROW, n (also no HOUSE)")
    static void promise21_noHouse() {
        Bounds.refusedBare("counts(0,0,0,1)", BAD, x -> x.counts(0, 0, 0, 1));
        Bounds.refusedBare("counts(0,4,0,1), ahead of NULL", BAD, x -> x.counts(0, 4, 0, 1));
        Bounds.refusedBare("counts(0,0,-1,1), ahead of PLACE", BAD, x -> x.counts(0, 0, -1, 1));
    }

    @Says("COUNTS, n of them (1 to 40), ITEMS of a ROW from i on")
    static void promise21_n1To40() {
        for (int n : new int[] {0, 41, -1, LEAST, MOST}) {
            Bounds.refused("counts(0,0,0," + n + ")", BAD, x -> x.counts(0, 0, 0, n));
            Bounds.refused("counts(0,4,0," + n + "), ahead of NULL", BAD, x -> x.counts(0, 4, 0, n));
        }
        RailOfHeads x = Due.house(LATE);
        x.row(0, 0, 40);
        Due.is("counts(0,0,0,40)", x.counts(0, 0, 0, 40), 0);
        Due.is("counts(0,0,39,1)", x.counts(0, 0, 39, 1), 0);
        Due.is("counts(0,0,0,41)", x.counts(0, 0, 0, 41), BAD);
    }

    @Says("1 NULL (a ROW that is missing)")
    static void promise21_aRowThatIsMissing() {
        Bounds.refused("counts(0,4,0,1)", NULL, x -> x.counts(0, 4, 0, 1));
        Bounds.refused("counts(0,4,-1,40), ahead of PLACE", NULL, x -> x.counts(0, 4, -1, 40));
    }

    @Says("2 PLACE (no such place of a ROW)")
    static void promise21_noSuchPlace() {
        Bounds.refused("ahead of the first", PLACE, x -> x.counts(0, 0, -1, 1));
        Bounds.refused("behind the last", PLACE, x -> x.counts(0, 0, 3, 1));
        Bounds.refused("one too many", PLACE, x -> x.counts(0, 0, 2, 2));
        Bounds.refused("four of three", PLACE, x -> x.counts(0, 0, 0, 4));
        Bounds.refused("40 of three", PLACE, x -> x.counts(0, 0, 0, 40));
        Bounds.refused("i least", PLACE, x -> x.counts(0, 0, LEAST, 1));
        Bounds.refused("i most", PLACE, x -> x.counts(0, 0, MOST, 1));
        Bounds.refused("i most, 40", PLACE, x -> x.counts(0, 0, MOST, 40));
        Bounds.refused("of a row of none", PLACE, x -> x.counts(0, 2, 0, 1));
        Bounds.refused("ahead of a wrong item", PLACE, x -> x.counts(0, 0, 1, 3));
        Bounds.changesNothing("the last", 0, x -> x.counts(0, 0, 2, 1));
    }

    @Says("then BAD: an ITEM not 0 to 30")
    static void promise21_items0To30() {
        Bounds.refused("99 alone", BAD, x -> x.counts(0, 0, 1, 1));
        Bounds.refused("99 behind", BAD, x -> x.counts(0, 0, 0, 2));
        Bounds.refused("99 ahead", BAD, x -> x.counts(0, 0, 1, 2));
        RailOfHeads x = Due.house(LATE);
        for (int lane = 0; lane < 3; lane++) {
            x.row(lane, lane, 3);
            for (int place = 0; place < 3; place++) {
                for (int v : new int[] {0, 30, 31, -1, 127, 128, 255, LEAST + 1, MOST}) {
                    int item = x.set(lane, place, v);
                    boolean fine = item >= 0 && item <= 30;
                    Due.is("counts() with item " + item + " of lane " + lane, x.counts(0, lane, 0, 3), fine ? 0 : BAD);
                }
                x.set(lane, place, 0);
            }
        }
    }

    @Says("then BAD: an ITEM not 0 to 30")
    static void promise21_itemsOutsideAreNotLookedAt() {
        RailOfHeads x = Due.house(LATE);
        x.row(0, 2, 4);
        x.set(0, 0, 31);
        x.set(0, 3, -1);
        Due.is("counts(0,0,1,2)", x.counts(0, 0, 1, 2), 0);
        Due.is("counts(0,0,0,2)", x.counts(0, 0, 0, 2), BAD);
        Due.is("counts(0,0,1,3)", x.counts(0, 0, 1, 3), BAD);
    }

    @Says("how far that is off, added: the LAW of the least, of several the least")
    static void promise21_ofSeveralTheLeast() {
        // behind minute 1: two in room 1 by first and round, two in room 2 by draw
        RailOfHeads x = Due.house("rail 9 0;room 9;room 9;room 9;door 0 1;door 0 2;picture 1 9;picture 2 60;group 2 0 round 0;");
        x.row(0, 0, 2);
        int[] inRoom1 = {1, 0, 0, 0, 0}, inRoom2 = {0, 0, 1, 1, 1};
        for (int v = 0; v < 5; v++) {
            x.set(0, 1, v);
            Due.is("counts in room 1 with " + v, x.counts(1, 0, 0, 2), inRoom1[v]);
            Due.is("counts in room 2 with " + v, x.counts(2, 0, 0, 2), inRoom2[v]);
        }
    }

    // ---- promises 22, 23

    @Says("An IMAGE (0, 1) is kept of the HOUSE and all who are in it: 1. BAD; STATE: no HOUSE.")
    static void promise22_images0And1() {
        for (int k : new int[] {-1, 2, LEAST, MOST}) {
            Bounds.refused("image(" + k + ")", BAD, x -> x.image(k));
        }
        RailOfHeads x = Scene.lived();
        Due.is("image(0)", x.image(0), 1);
        Due.is("image(1)", x.image(1), 1);
    }

    @Says("Refusals are answers, the first of these that fits, but as told: BAD (a number is not as told; there is no such thing), STATE (as told), FULL (as told), then FINDINGS")
    static void promise22_badAheadOfState() {
        for (int k : new int[] {-1, 2, LEAST, MOST}) {
            Bounds.refusedBare("image(" + k + ")", BAD, x -> x.image(k));
        }
    }

    @Says("STATE: no HOUSE.")
    static void promise22_noHouse() {
        Bounds.refusedBare("image(0)", STATE, x -> x.image(0));
        Bounds.refusedBare("image(1)", STATE, x -> x.image(1));
        RailOfHeads x = new RailOfHeads();
        x.image(0);
        Due.is("restore(0)", x.restore(0), STATE);
    }

    @Says("An IMAGE (0, 1) is kept of the HOUSE and all who are in it: 1.")
    static void promise22_inPlaceOfTheOneBefore() {
        RailOfHeads x = Due.house(LATE);
        x.go(1);
        x.image(0);
        x.go(1);
        x.image(1);
        x.go(1);
        x.image(0);
        x.go(1);
        Due.is("restore(1)", x.restore(1) + x.count(6), 3);
        Due.is("restore(0)", x.restore(0) + x.count(6), 4);
        Due.is("restore(1) again", x.restore(1) + x.count(6), 3);
    }

    @Says("These are as an IMAGE kept them: 1. BAD; STATE: none was kept.")
    static void promise23_images0And1() {
        for (int k : new int[] {-1, 2, LEAST, MOST}) {
            Bounds.refused("restore(" + k + ")", BAD, x -> x.restore(k));
        }
        RailOfHeads x = Scene.lived();
        x.image(1);
        Due.is("restore(0)", x.restore(0), 1);
        Due.is("restore(1)", x.restore(1), 1);
    }

    @Says("Refusals are answers, the first of these that fits, but as told: BAD (a number is not as told; there is no such thing), STATE (as told), FULL (as told), then FINDINGS")
    static void promise23_badAheadOfState() {
        for (int k : new int[] {-1, 2, LEAST, MOST}) {
            Bounds.refusedBare("restore(" + k + ")", BAD, x -> x.restore(k));
        }
    }

    @Says("STATE: none was kept.")
    static void promise23_noneWasKept() {
        Bounds.refused("restore(1), where 0 was kept", STATE, x -> x.restore(1));
        Bounds.refusedBare("restore(0)", STATE, x -> x.restore(0));
        Bounds.refusedBare("restore(1)", STATE, x -> x.restore(1));
    }

    @Says("These are as an IMAGE kept them: 1.")
    static void promise23_allIsAsItWas() {
        RailOfHeads x = Scene.lived();
        x.image(1);
        x.rule(20, 20);
        x.go(60);
        x.house();
        Due.read(x, "rail 9 9;" + "room 9;".repeat(6) + "door 0 5;door 5 1;picture 5 60;picture 1 9;picture 1 9;group 9 0 round 9;");
        x.go(3);
        Due.is("restore(1)", x.restore(1), 1);
        RailOfHeads twin = Scene.lived();
        twin.image(1);
        Bounds.same("restore(1)", Portrait.butTheTape(x), Portrait.butTheTape(twin));
    }

    @Says("These are as an IMAGE kept them: 1.")
    static void promise23_theImageStays() {
        RailOfHeads x = Scene.lived();
        x.restore(0);
        x.rule(20, 1);
        x.go(30);
        Due.is("restore(0)", x.restore(0), 1);
        RailOfHeads twin = Scene.lived();
        twin.restore(0);
        Bounds.same("restore(0) twice", Portrait.whole(x), Portrait.whole(twin));
    }

    @Says("These are as an IMAGE kept them: 1.")
    static void promise23_whatIsNoPartOfAHouseStays() {
        RailOfHeads x = Scene.lived();
        Due.is("restore(0)", x.restore(0), 1);
        Due.is("rows", x.count(0), 4);
        Due.is("the tape", x.count(8), 44);
        Due.is("fault()", x.fault(), 2);
        Due.is("status()", x.status(), 5);
        Due.is("trace(0)", x.trace(0), 12);
        Due.is("trace(3)", x.trace(3), 20);
        x = new RailOfHeads();
        Due.read(x, LATE);
        x.image(0);
        x.row(0, 0, 9);
        x.restore(0);
        Due.is("a row that was made since", x.drop(0), 9);
    }
}
