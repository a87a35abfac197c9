/** Promises 1 and 9 to 13 (a new object, far, go, rule, visitor, room), with 28 (count). */
public final class MinutesTest {
    private static final int NONE = Due.NONE, BAD = Due.BAD, STATE = Due.STATE;

    public static void main(String[] args) {
        withoutAHouse();
        roomsAreFar();
        someLookOverHeads();
        someWaitAndMiss();
        lawsAim();
        nextRooms();
        theGuardTellsToGoOn();
        wrongNumbers();
        Due.end();
    }

    /** what 0 .. 8 of a VISITOR. */
    private static void visitor(RailOfHeads x, int v, int... due) {
        for (int what = 0; what < due.length; what++) {
            Due.is("minute " + x.count(6) + ": visitor(" + v + "," + what + ")", x.visitor(v, what), due[what]);
        }
    }

    private static void withoutAHouse() {
        RailOfHeads x = new RailOfHeads();
        for (int what = 0; what <= 8; what++) {
            Due.is("count(" + what + ")", x.count(what), 0);
        }
        Due.is("fault", x.fault(), 0);
        Due.is("status", x.status(), 0);
        Due.is("far", x.far(0, 0), BAD);
        Due.is("go, ahead of BAD", x.go(0), STATE);
        Due.is("go", x.go(1), STATE);
        Due.is("rule, ahead of BAD", x.rule(0, -1), STATE);
        Due.is("rule", x.rule(1, 0), STATE);
        Due.is("visitor", x.visitor(0, 0), BAD);
        Due.is("room", x.room(0, 0), BAD);
        Due.is("fire", x.fire(), STATE);
        Due.is("kind", x.kind(0), BAD);
    }

    private static void roomsAreFar() {
        RailOfHeads x = Due.house("rail 1 0;room 1;room 1;room 1;room 1;door 0 1;door 1 2 one;door 2 0 one;door 0 1;"
                + "picture 0 1;group 1 0 first 0;");
        int[][] due = {{0, 1, 2, NONE}, {1, 0, 1, NONE}, {1, 2, 0, NONE}, {NONE, NONE, NONE, 0}};
        for (int a = 0; a < 4; a++) {
            for (int b = 0; b < 4; b++) {
                Due.is("far(" + a + "," + b + ")", x.far(a, b), due[a][b]);
            }
        }
        Due.is("far(0,4)", x.far(0, 4), BAD);
        Due.is("far(4,0)", x.far(4, 0), BAD);
        Due.is("far(-1,0)", x.far(-1, 0), BAD);
        Due.is("far(0,most)", x.far(0, Due.MOST), BAD);
    }

    private static void someLookOverHeads() {
        RailOfHeads x = Due.house("rail 1 0;room 2;picture 0 20;group 3 0 first 1;");
        visitor(x, 0, 0, NONE, 0, 1, 0, 0, 0, NONE, 0);
        Due.is("go", x.go(1), 1);
        visitor(x, 1, 0, 0, 0, 1, 0, 0, 0, 0, 0);
        visitor(x, 2, 0, NONE, 0, 0, 0, 0, 0, NONE, 0);
        Due.is("room(0,1)", x.room(0, 1), 2);
        Due.is("go", x.go(1), 2);
        visitor(x, 0, 0, 0, 0, 1, 200, 0, 0, 0, 1);
        visitor(x, 1, 0, 0, 0, 1, 80, 0, 0, 0, 1);
        visitor(x, 2, 0, NONE, 1, 0, 0, 0, 0, NONE, 0);
        Due.is("count(7)", x.count(7), 1);
        Due.is("go", x.go(2), 4);
        visitor(x, 1, 0, 0, 0, 1, 240, 0, 0, 0, 3);
        Due.is("rule", x.rule(2, 0), 1);
        Due.is("go", x.go(1), 5);
        visitor(x, 0, 0, 0, 0, 1, 800, 1, 0, NONE, 0);
        visitor(x, 1, 0, 0, 0, 1, 440, 1, 0, NONE, 0);
        Due.is("go", x.go(1), 6);
        visitor(x, 0, 0, NONE, 1, 1, 800, 1, 0, NONE, 0);
        Due.is("room(0,1)", x.room(0, 1), 0);
        Due.is("count(7)", x.count(7), 3);
        Due.is("go", x.go(60), 66);
        visitor(x, 1, 0, NONE, 1, 1, 440, 1, 0, NONE, 0);
    }

    private static void someWaitAndMiss() {
        RailOfHeads x = Due.house("rail 9 0;room 5;room 1;door 0 1;picture 1 60;picture 0 5;"
                + "group 1 0 draw 9;group 1 1 draw 1;");
        x.go(2);
        visitor(x, 0, 0, 1, 0, 9, 0, 0, 0, 0, 0);
        visitor(x, 1, 1, 0, 0, 1, 0, 0, 0, 0, 0);
        x.go(1);
        visitor(x, 0, 0, 1, 0, 9, 600, 0, 0, 0, 1);
        visitor(x, 1, 1, 0, 0, 0, 0, 0, 0, 0, 0);
        x.go(1);
        visitor(x, 1, 1, 0, 0, 0, 0, 1, 1, 1, 0);
        x.go(2);
        visitor(x, 1, 1, 0, 0, 0, 100, 3, 1, NONE, 0);
        x.go(1);
        visitor(x, 1, 1, NONE, 1, 0, 100, 3, 1, NONE, 0);
        // what he had done with ahead of it stays done with
        x = Due.house("rail 9 0;room 5;room 1;door 0 1;picture 0 9;picture 1 60;group 2 0 first 0;");
        x.go(4);
        visitor(x, 1, 0, 0, 0, 0, 180, 3, 2, NONE, 0);
        // he who goes on makes room for those behind him in the same minute, not for those ahead
        x = Due.house("rail 9 0;room 1;room 1;door 0 1;picture 1 10;group 3 0 first 9;");
        x.go(1);
        visitor(x, 0, 0, 0, 0, 9);
        visitor(x, 1, 0, NONE, 0, 8);
        visitor(x, 2, 0, NONE, 0, 8);
        x.go(1);
        visitor(x, 0, 0, 1, 0, 9);
        visitor(x, 1, 0, 0, 0, 8);
        visitor(x, 2, 0, NONE, 0, 7);
    }

    private static void lawsAim() {
        String head = "rail 9 0;room 9;room 9;room 9;room 9;door 0 1;door 1 2;picture 2 14;picture 0 4;picture 1 9;picture 3 60;";
        RailOfHeads x = Due.house(head + "group 1 0 first 0;group 1 0 draw 0;group 1 0 round 0;");
        x.go(1);
        Due.is("first", x.visitor(0, 7), 0);
        Due.is("draw: 4, 4 and 4, of several the least", x.visitor(1, 7), 0);
        Due.is("round", x.visitor(2, 7), 0);
        x.go(5);
        // picture 0 is done with, in room 2: picture 1 is worth 4 - 10, picture 2 is worth 9 - 5
        Due.is("done", x.visitor(0, 5), 1);
        Due.is("first, then as draw", x.visitor(0, 7), 2);
        Due.is("draw", x.visitor(1, 7), 2);
        Due.is("round", x.visitor(2, 7), 1);
        x.go(30);
        for (int v = 0; v < 3; v++) {
            visitor(x, v, v, NONE, 1, 0, 140 * 3 + 40 * 2 + 90 * 2, 7, 0, NONE, 0);
        }
        // what is nearer may draw more, and what draws least may be below 0
        x = Due.house("rail 9 0;room 9;room 9;door 0 1;picture 1 10;picture 0 6;group 1 0 draw 0;");
        x.go(1);
        Due.is("draw", x.visitor(0, 7), 1);
        x = Due.house("rail 9 0;room 9;room 9;room 9;door 0 1;door 1 2;picture 2 1;group 1 0 draw 0;");
        x.go(1);
        Due.is("draw of 1 less 10", x.visitor(0, 7), 0);
        // nothing that he could get to
        x = Due.house("rail 9 0;room 9;room 9;door 1 0 one;picture 1 60;group 1 0 first 0;");
        x.go(1);
        visitor(x, 0, 0, 0, 0, 0, 0, 0, 0, NONE, 0);
        x.go(1);
        visitor(x, 0, 0, NONE, 1, 0, 0, 0, 0, NONE, 0);
    }

    private static void nextRooms() {
        RailOfHeads x = Due.house("rail 9 0;room 9;room 9;room 9;room 9;door 2 3;door 0 2;door 0 1;door 1 3;"
                + "picture 3 60;group 1 0 first 0;");
        x.go(2);
        Due.is("of two ways the least room", x.visitor(0, 1), 1);
        x = Due.house("rail 9 0;room 9;room 9;room 9;room 9;door 0 1;door 1 2;door 2 3;door 0 2;"
                + "picture 3 60;group 1 0 first 0;");
        x.go(2);
        Due.is("the nearer room", x.visitor(0, 1), 2);
        x = Due.house("rail 9 0;room 9;room 9;room 9;door 0 1;door 1 2;picture 2 1;picture 0 1;group 1 0 round 0;");
        x.go(6);
        Due.is("back, not through walls", x.visitor(0, 1), 1);
        x.go(1);
        Due.is("and back", x.visitor(0, 1), 0);
    }

    private static void theGuardTellsToGoOn() {
        RailOfHeads x = Due.house("rail 9 3;room 9;picture 0 60;picture 0 9;group 1 0 first 0;");
        x.go(3);
        visitor(x, 0, 0, 0, 0, 0, 1200, 0, 0, 0, 2);
        x.go(1);
        visitor(x, 0, 0, 0, 0, 0, 1800, 1, 0, 1, 0);
        x.go(2);
        visitor(x, 0, 0, 0, 0, 0, 1980, 3, 0, NONE, 0);
        // a guard who comes late: he has done with it when he looks again
        x = Due.house("rail 9 0;room 9;picture 0 60;group 1 0 first 0;");
        x.go(6);
        visitor(x, 0, 0, 0, 0, 0, 3000, 0, 0, 0, 5);
        x.rule(9, 2);
        visitor(x, 0, 0, 0, 0, 0, 3000, 0, 0, 0, 5);
        x.go(1);
        visitor(x, 0, 0, 0, 0, 0, 3600, 1, 0, NONE, 0);
        // 2 and 60 by 10 minutes without one
        x = Due.house("rail 9 0;room 9;picture 0 60;group 1 0 first 0;");
        x.go(8);
        visitor(x, 0, 0, 0, 0, 0, 4200, 0, 0, 0, 7);
        x.go(1);
        visitor(x, 0, 0, 0, 0, 0, 4800, 1, 0, NONE, 0);
    }

    private static void wrongNumbers() {
        RailOfHeads x = Due.house("rail 3 4;room 12;room 7;door 0 1;picture 0 20;group 3 0 first 1;group 2 9 draw 5;");
        Due.is("go(0)", x.go(0), BAD);
        Due.is("go(61)", x.go(61), BAD);
        Due.is("go(-1)", x.go(-1), BAD);
        Due.is("rule(0,0)", x.rule(0, 0), BAD);
        Due.is("rule(21,0)", x.rule(21, 0), BAD);
        Due.is("rule(1,-1)", x.rule(1, -1), BAD);
        Due.is("rule(1,21)", x.rule(1, 21), BAD);
        Due.is("rule(20,20)", x.rule(20, 20), 1);
        Due.is("visitor(5,0)", x.visitor(5, 0), BAD);
        Due.is("visitor(-1,0)", x.visitor(-1, 0), BAD);
        Due.is("visitor(0,9)", x.visitor(0, 9), BAD);
        Due.is("visitor(0,-1)", x.visitor(0, -1), BAD);
        Due.is("visitor(4,0)", x.visitor(4, 0), 1);
        Due.is("visitor(2,0)", x.visitor(2, 0), 0);
        Due.is("visitor(4,3)", x.visitor(4, 3), 5);
        Due.is("room(0,0)", x.room(0, 0), 12);
        Due.is("room(1,0)", x.room(1, 0), 7);
        Due.is("room(1,1)", x.room(1, 1), 0);
        Due.is("room(2,0)", x.room(2, 0), BAD);
        Due.is("room(-1,0)", x.room(-1, 0), BAD);
        Due.is("room(0,2)", x.room(0, 2), BAD);
        Due.is("room(0,-1)", x.room(0, -1), BAD);
        Due.is("minutes gone", x.count(6), 0);
        x.go(60);
        Due.is("minutes gone", x.count(6), 60);
    }
}
