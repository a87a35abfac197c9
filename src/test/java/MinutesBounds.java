/** Boundaries of promises 9 to 13: far, go (with what a MINUTE does), rule, visitor, room. */
final class MinutesBounds {
    private static final int NONE = Due.NONE, BAD = Due.BAD, STATE = Due.STATE, LEAST = Due.LEAST, MOST = Due.MOST;
    private static final String SIX_ROOMS = "rail 9 0;" + "room 9;".repeat(6);

    private MinutesBounds() {
    }

    private static void visitor(RailOfHeads x, int v, int what, int due) {
        Due.is("minute " + x.count(6) + ": visitor(" + v + "," + what + ")", x.visitor(v, what), due);
    }

    private static void isIn(RailOfHeads x, int v, int room) {
        visitor(x, v, 1, room);
        visitor(x, v, 2, 0);
    }

    private static void isToCome(RailOfHeads x, int v) {
        visitor(x, v, 1, NONE);
        visitor(x, v, 2, 0);
    }

    private static void isOut(RailOfHeads x, int v) {
        visitor(x, v, 1, NONE);
        visitor(x, v, 2, 1);
    }

    // ---- promise 9

    @Says("FAR of ROOM b from ROOM a; NONE. BAD.")
    static void promise09_noSuchRoom() {
        for (int room : new int[] {-1, 2, 6, LEAST, MOST}) {
            Bounds.refused("far(" + room + ",0)", BAD, x -> x.far(room, 0));
            Bounds.refused("far(0," + room + ")", BAD, x -> x.far(0, room));
            Bounds.refused("far(" + room + "," + room + ")", BAD, x -> x.far(room, room));
        }
        Bounds.refusedBare("far(0,0) without a house", BAD, x -> x.far(0, 0));
        RailOfHeads x = Due.house(SIX_ROOMS + "picture 0 1;group 1 0 draw 0;");
        Due.is("far(5,5)", x.far(5, 5), 0);
        Due.is("far(5,6)", x.far(5, 6), BAD);
        Due.is("far(6,5)", x.far(6, 5), BAD);
    }

    @Says("the fewest DOORS by which one may go (0 to itself); NONE")
    static void promise09_0ToItself() {
        RailOfHeads x = Due.house(SIX_ROOMS + "door 1 2;picture 0 1;group 1 0 draw 0;");
        for (int a = 0; a < 6; a++) {
            for (int b = 0; b < 6; b++) {
                int due = a == b ? 0 : a + b == 3 && a * b == 2 ? 1 : NONE;
                Due.is("far(" + a + "," + b + ")", x.far(a, b), due);
            }
        }
    }

    @Says("the fewest DOORS by which one may go (0 to itself); NONE")
    static void promise09_fiveDoorsAtMost() {
        RailOfHeads x = Due.house(SIX_ROOMS + "door 0 1;door 2 1;door 2 3;door 4 3;door 4 5;picture 0 1;group 1 0 draw 0;");
        RailOfHeads one = Due.house(SIX_ROOMS + "door 4 5 one;door 3 4 one;door 2 3 one;door 1 2 one;door 0 1 one;"
                + "picture 0 1;group 1 0 draw 0;");
        for (int a = 0; a < 6; a++) {
            for (int b = 0; b < 6; b++) {
                Due.is("far(" + a + "," + b + ")", x.far(a, b), Math.abs(a - b));
                Due.is("far(" + a + "," + b + ") one way", one.far(a, b), a <= b ? b - a : NONE);
            }
        }
    }

    @Says("the fewest DOORS by which one may go (0 to itself); NONE")
    static void promise09_throughAnyRoom() {
        for (int middle = 0; middle < 6; middle++) {
            StringBuilder doors = new StringBuilder();
            for (int room = 0; room < 6; room++) {
                doors.append(room == middle ? "" : "door " + middle + " " + room + ";");
            }
            RailOfHeads x = Due.house(SIX_ROOMS + doors + "picture 0 1;group 1 0 draw 0;");
            for (int a = 0; a < 6; a++) {
                for (int b = 0; b < 6; b++) {
                    Due.is("far(" + a + "," + b + ")", x.far(a, b), a == b ? 0 : a == middle || b == middle ? 1 : 2);
                }
            }
        }
    }

    @Says("one: from A to B alone")
    static void promise09_oneWay() {
        String head = "rail 9 0;room 9;room 9;", tail = "picture 0 1;group 1 0 draw 0;";
        Due.is("back", Due.house(head + "door 1 0 one;" + tail).far(0, 1), NONE);
        Due.is("forth", Due.house(head + "door 1 0 one;" + tail).far(1, 0), 1);
        Due.is("by another door", Due.house(head + "door 1 0 one;door 0 1 one;" + tail).far(0, 1), 1);
        Due.is("by another door, both ways", Due.house(head + "door 1 0;door 1 0 one;" + tail).far(0, 1), 1);
    }

    // ---- promise 10: the call

    @Says("A MINUTE m (the first is 0)")
    static void promise10_theFirstMinuteIs0() {
        RailOfHeads x = Due.house("rail 9 0;room 9;picture 0 60;group 1 0 draw 0;group 1 1 draw 0;");
        Due.is("count(6)", x.count(6), 0);
        Due.is("go(1)", x.go(1), 1);
        isIn(x, 0, 0);
        isToCome(x, 1);
        Due.is("go(1)", x.go(1), 2);
        isIn(x, 1, 0);
    }

    @Says("n MINUTES (1 to 60): how many have gone.")
    static void promise10_n1To60() {
        RailOfHeads x = Due.house("rail 9 0;room 9;picture 0 60;group 1 0 draw 0;");
        Due.is("go(1)", x.go(1), 1);
        Due.is("go(60)", x.go(60), 61);
        Due.is("go(59)", x.go(59), 120);
        Due.is("go(60)", x.go(60), 180);
        Due.is("count(6)", x.count(6), 180);
        for (int n : new int[] {0, 61, -1, 120, LEAST, MOST}) {
            Bounds.refused("go(" + n + ")", BAD, y -> y.go(n));
        }
    }

    @Says("STATE: no HOUSE (ahead of BAD)")
    static void promise10_noHouse() {
        for (int n : new int[] {1, 60, 0, 61, -1}) {
            Bounds.refusedBare("go(" + n + ")", STATE, x -> x.go(n));
        }
    }

    // ---- promise 10: who is to come

    @Says("by now (MINUTE of his GROUP m or less)")
    static void promise10_hisMinute() {
        RailOfHeads x = Due.house("rail 9 0;room 9;picture 0 60;group 1 0 draw 0;group 1 3 draw 0;group 1 60 draw 0;");
        isToCome(x, 0);
        x.go(1);
        isIn(x, 0, 0);
        x.go(2);
        isToCome(x, 1);
        Due.is("he has not waited", x.kind(1), 5);
        x.go(1);
        isIn(x, 1, 0);
        x.go(56);
        isToCome(x, 2);
        Due.is("count(6)", x.count(6), 60);
        x.go(1);
        isIn(x, 2, 0);
    }

    @Says("by now (MINUTE of his GROUP m or less)")
    static void promise10_laterThanHisMinute() {
        RailOfHeads x = Due.house("rail 9 0;room 1;picture 0 1;group 1 0 draw 0;group 1 1 draw 9;");
        x.go(3);
        isToCome(x, 1);
        visitor(x, 1, 3, 7);
        x.go(1);
        isIn(x, 1, 0);
        visitor(x, 1, 3, 7);
    }

    @Says("he comes into ROOM 0, if that holds one more (fewer than HOLDS are in it); else WAITS.")
    static void promise10_room0IsFull() {
        for (int holds : new int[] {1, 2, 29, 30, 40}) {
            RailOfHeads x = Due.house("rail 9 0;room " + holds + ";picture 0 60;group 20 0 draw 5;group 10 0 draw 5;");
            x.go(1);
            int in = Math.min(holds, 30);
            Due.is("room(0,1)", x.room(0, 1), in);
            isIn(x, in - 1, 0);
            visitor(x, in - 1, 3, 5);
            if (in < 30) {
                isToCome(x, in);
                visitor(x, in, 3, 4);
                Due.is("kind(" + in + ")", x.kind(in), 4);
            }
        }
    }

    @Says("one comes in by ROOM 0")
    static void promise10_byRoom0Alone() {
        RailOfHeads x = Due.house("rail 9 0;room 1;room 40;door 0 1;picture 1 60;group 2 0 draw 5;");
        x.go(1);
        isIn(x, 0, 0);
        isToCome(x, 1);
        Due.is("room(1,1)", x.room(1, 1), 0);
    }

    // ---- promise 10: who is in a room

    @Says("without an AIM: OUT")
    static void promise10_withoutAnAim() {
        RailOfHeads x = Due.house("rail 9 0;room 9;room 9;door 1 0 one;picture 1 60;group 1 0 first 5;");
        x.go(1);
        isIn(x, 0, 0);
        visitor(x, 0, 7, NONE);
        x.go(1);
        isOut(x, 0);
        visitor(x, 0, 3, 5);
        visitor(x, 0, 5, 0);
        Due.is("room(0,1)", x.room(0, 1), 0);
        x.go(60);
        isOut(x, 0);
    }

    @Says("CLEAR, if fewer than RAIL have looked at it in this MINUTE ahead of him, else OVER")
    static void promise10_theRailIsFull() {
        for (int rail : new int[] {1, 2, 19, 20}) {
            RailOfHeads x = Due.house("rail " + rail + " 0;room 40;picture 0 10;group 1 0 draw 0;group 20 0 draw 0;");
            x.go(2);
            visitor(x, 0, 4, 100);
            visitor(x, rail - 1, 4, 100);
            visitor(x, rail, 4, 40);
            visitor(x, 20, 4, 40);
            Due.is("kind of the last at the rail", x.kind(rail - 1), 1);
            Due.is("kind of the first behind it", x.kind(rail), 2);
        }
    }

    @Says("have looked at it in this MINUTE ahead of him")
    static void promise10_atItInThisMinute() {
        RailOfHeads x = Due.house("rail 1 0;room 9;picture 0 10;picture 0 20;group 1 0 first 0;group 1 0 draw 0;group 1 0 round 0;");
        for (int minute = 1; minute <= 2; minute++) {
            x.go(minute == 1 ? 2 : 1);
            visitor(x, 0, 4, 100 * minute);
            visitor(x, 1, 4, 200 * minute);
            visitor(x, 2, 4, 40 * minute);
        }
    }

    @Says("he SEES 10, or 4, times its DRAW more of it")
    static void promise10_whatIsSeen() {
        for (int draw : new int[] {1, 60}) {
            RailOfHeads x = Due.house("rail 1 0;room 9;picture 0 " + draw + ";group 2 0 draw 0;");
            x.go(2);
            visitor(x, 0, 4, 10 * draw);
            visitor(x, 1, 4, 4 * draw);
            x.go(1);
            visitor(x, 0, 4, 20 * draw);
            visitor(x, 1, 4, 8 * draw);
        }
    }

    /** One comes in minute 0 and looks from minute 1 on: he has done with it behind so many minutes of looking. */
    private static void hasDoneBehind(String rail, int draw, int minutes) {
        RailOfHeads x = Due.house(rail + "room 9;picture 0 " + draw + ";group 1 0 draw 0;");
        x.go(minutes);
        visitor(x, 0, 5, 0);
        visitor(x, 0, 7, 0);
        visitor(x, 0, 8, minutes - 1);
        x.go(1);
        visitor(x, 0, 4, 10 * draw * minutes);
        visitor(x, 0, 5, 1);
        visitor(x, 0, 6, 0);
        visitor(x, 0, 7, NONE);
        visitor(x, 0, 8, 0);
        isIn(x, 0, 0);
        x.go(1);
        isOut(x, 0);
    }

    @Says("All that is divided is cut towards 0.")
    static void promise10_2AndDrawBy10Minutes() {
        int[] draws = {1, 9, 10, 19, 20, 29, 30, 39, 40, 49, 50, 59, 60};
        int[] minutes = {2, 2, 3, 3, 4, 4, 5, 5, 6, 6, 7, 7, 8};
        for (int i = 0; i < draws.length; i++) {
            hasDoneBehind("rail 9 0;", draws[i], minutes[i]);
        }
    }

    @Says("having looked at it for 2 and DRAW by 10 MINUTES in all")
    static void promise10_eachPictureForItself() {
        RailOfHeads x = Due.house("rail 9 0;room 9;picture 0 9;picture 0 10;picture 0 60;group 1 0 round 0;");
        int[] done = {0, 0, 0, 1, 1, 1, 3, 3, 3, 3, 3, 3, 3, 3, 7};
        for (int minutes = 0; minutes < done.length; minutes++) {
            visitor(x, 0, 5, done[minutes]);
            x.go(1);
        }
        visitor(x, 0, 4, 180 + 300 + 4800);
    }

    @Says("or, if there is a guard, for GUARD MINUTES, he has done with it")
    static void promise10_guardMinutes() {
        for (int guard = 1; guard <= 20; guard++) {
            hasDoneBehind("rail 9 " + guard + ";", 60, Math.min(guard, 8));
            hasDoneBehind("rail 9 " + guard + ";", 9, Math.min(guard, 2));
        }
    }

    @Says("0: there is no guard")
    static void promise10_noGuard() {
        hasDoneBehind("rail 9 0;", 60, 8);
        RailOfHeads x = Due.house("rail 9 2;room 9;picture 0 60;group 1 0 draw 0;");
        x.rule(9, 0);
        x.go(8);
        visitor(x, 0, 8, 7);
        x.go(1);
        visitor(x, 0, 5, 1);
    }

    @Says("or, if there is a guard, for GUARD MINUTES, he has done with it")
    static void promise10_aGuardWhoComesLate() {
        for (int guard : new int[] {1, 5, 6}) {
            RailOfHeads x = Due.house("rail 9 0;room 9;picture 0 60;group 1 0 draw 0;");
            x.go(6);
            visitor(x, 0, 8, 5);
            x.rule(9, guard);
            visitor(x, 0, 5, 0);
            x.go(1);
            visitor(x, 0, 5, 1);
        }
        RailOfHeads x = Due.house("rail 9 0;room 9;picture 0 60;group 1 0 draw 0;");
        x.go(6);
        x.rule(9, 7);
        x.go(1);
        visitor(x, 0, 5, 0);
        x.go(1);
        visitor(x, 0, 5, 1);
    }

    @Says("the one from which it is least FAR to his AIM's, of several the least")
    static void promise10_theNextRoom() {
        RailOfHeads x = Due.house("rail 9 0;room 9;room 9;room 9;room 9;door 3 2;door 2 0;door 0 1;door 1 3;"
                + "picture 3 60;group 1 0 draw 0;");
        x.go(2);
        isIn(x, 0, 1);
        x.go(1);
        isIn(x, 0, 3);
        x = Due.house("rail 9 0;room 9;room 9;room 9;room 9;door 0 1;door 1 2;door 2 3;door 0 2;picture 3 60;group 1 0 draw 0;");
        x.go(2);
        isIn(x, 0, 2);
        // from room 1 one cannot get to room 2 at all
        x = Due.house("rail 9 0;room 9;room 9;room 9;door 0 1 one;door 0 2;picture 2 60;group 1 0 draw 0;");
        x.go(2);
        isIn(x, 0, 2);
    }

    @Says("the one from which it is least FAR to his AIM's, of several the least")
    static void promise10_theNextRoomIsTheFirstOrTheLast() {
        RailOfHeads x = Due.house(SIX_ROOMS + "door 0 5;picture 5 1;picture 0 1;group 1 0 round 0;");
        for (int room : new int[] {0, 5, 5, 5, 0, 0, 0, NONE}) {
            x.go(1);
            visitor(x, 0, 1, room);
        }
        x = Due.house(SIX_ROOMS + "door 0 3;door 3 5;picture 5 1;picture 0 1;group 1 0 round 0;");
        for (int room : new int[] {0, 3, 5, 5, 5, 3, 0, 0, 0, NONE}) {
            x.go(1);
            visitor(x, 0, 1, room);
        }
    }

    @Says("he goes into it, if it holds one more; else WAITS")
    static void promise10_theNextRoomIsFull() {
        for (int holds : new int[] {1, 2, 3}) {
            RailOfHeads x = Due.house("rail 9 0;room 9;room " + holds + ";room 9;room 9;door 0 1;door 1 3;door 0 2;door 2 3;"
                    + "picture 3 60;group 4 0 draw 5;");
            x.go(2);
            isIn(x, holds - 1, 1);
            visitor(x, holds - 1, 3, 5);
            isIn(x, holds, 0);
            visitor(x, holds, 3, 4);
            Due.is("room(1,1)", x.room(1, 1), holds);
            Due.is("none goes round", x.room(2, 1), 0);
            Due.is("kind(" + holds + ")", x.kind(holds), 4);
        }
    }

    @Says("VISITORS by numbers")
    static void promise10_byNumbers() {
        // he who leaves makes room for those behind him, not for those ahead of him
        RailOfHeads x = Due.house("rail 9 0;room 1;picture 0 1;group 1 3 draw 9;group 1 0 draw 9;group 1 3 draw 9;");
        x.go(4);
        isOut(x, 1);
        isToCome(x, 0);
        visitor(x, 0, 3, 8);
        isIn(x, 2, 0);
        visitor(x, 2, 3, 9);
    }

    // ---- promise 10: who waits

    @Says("Who WAITS has 1 PATIENCE less; if he had none, he gives up: OUT, if he was to come")
    static void promise10_patienceOfOneWhoIsToCome() {
        for (int patience : new int[] {0, 1, 2, 19, 20}) {
            RailOfHeads x = Due.house("rail 9 0;room 1;picture 0 60;picture 0 60;picture 0 60;group 1 0 round 0;"
                    + "group 1 0 round " + patience + ";");
            for (int i = 1; i <= patience; i++) {
                x.go(1);
                isToCome(x, 1);
                visitor(x, 1, 3, patience - i);
            }
            x.go(1);
            isOut(x, 1);
            visitor(x, 1, 3, 0);
            visitor(x, 1, 5, 0);
            visitor(x, 1, 6, 0);
            Due.is("count(7)", x.count(7), 1);
            x.go(60);
            isOut(x, 1);
            visitor(x, 1, 4, 0);
        }
    }

    @Says("else he has done with his AIM (MISSED), without seeing it")
    static void promise10_patienceOfOneWhoIsInARoom() {
        for (int patience : new int[] {0, 1, 2, 7}) {
            RailOfHeads x = Due.house("rail 9 0;room 9;room 1;door 0 1;picture 1 60;picture 0 10;group 1 0 first 0;"
                    + "group 1 0 first " + patience + ";");
            x.go(1);
            for (int i = 1; i <= patience; i++) {
                x.go(1);
                visitor(x, 1, 3, patience - i);
                visitor(x, 1, 5, 0);
                visitor(x, 1, 7, 0);
            }
            x.go(1);
            isIn(x, 1, 0);
            visitor(x, 1, 3, 0);
            visitor(x, 1, 4, 0);
            visitor(x, 1, 5, 1);
            visitor(x, 1, 6, 1);
            visitor(x, 1, 7, 1);
            x.go(1);
            visitor(x, 1, 4, 100);
        }
    }

    @Says("Who WAITS has 1 PATIENCE less")
    static void promise10_patienceIsNotGivenBack() {
        RailOfHeads x = Due.house("rail 9 0;room 1;room 1;door 0 1;picture 1 60;group 2 0 first 1;");
        x.go(1);
        isToCome(x, 1);
        visitor(x, 1, 3, 0);
        x.go(1);
        isIn(x, 1, 0);
        visitor(x, 1, 3, 0);
        x.go(1);
        isIn(x, 1, 0);
        visitor(x, 1, 6, 1);
        visitor(x, 1, 7, NONE);
        x.go(1);
        isOut(x, 1);
        visitor(x, 1, 3, 0);
    }

    // ---- promise 10: aims

    private static void aim(String doorsAndPictures, String law, int due) {
        RailOfHeads x = Due.house(SIX_ROOMS + doorsAndPictures + "group 1 0 " + law + " 0;");
        x.go(1);
        visitor(x, 0, 7, due);
    }

    @Says("of PICTURES that he has not done with and whose ROOM he can get to")
    static void promise10_whereHeCannotGet() {
        for (String law : new String[] {"first", "draw", "round"}) {
            aim("door 0 1;door 2 0 one;picture 2 60;picture 3 60;picture 1 1;picture 0 1;", law, law.equals("round") ? 2 : 3);
            aim("picture 1 60;picture 2 60;", law, NONE);
            aim("picture 1 60;picture 0 1;", law, 1);
        }
    }

    @Says("first: PICTURE 0, if it is one of them, else as draw")
    static void promise10_first() {
        aim("door 0 1;picture 1 1;picture 0 60;", "first", 0);
        aim("door 1 0 one;picture 1 60;picture 0 8;picture 0 9;", "first", 2);
        RailOfHeads x = Due.house(SIX_ROOMS + "picture 0 1;picture 0 8;picture 0 9;group 1 0 first 0;");
        x.go(3);
        visitor(x, 0, 5, 1);
        visitor(x, 0, 7, 2);
    }

    @Says("draw: the greatest DRAW less 5 times FAR, of several the least")
    static void promise10_draw() {
        String chain = "door 0 1;door 1 2;door 2 3;door 3 4;door 4 5;";
        aim(chain + "picture 5 60;picture 0 34;", "draw", 0);
        aim(chain + "picture 5 60;picture 0 35;", "draw", 0);
        aim(chain + "picture 5 60;picture 0 36;", "draw", 1);
        aim(chain + "picture 0 34;picture 5 60;", "draw", 1);
        aim(chain + "picture 0 35;picture 5 60;", "draw", 0);
        aim(chain + "picture 5 1;", "draw", 0);
        aim(chain + "picture 5 1;picture 4 1;picture 5 60;picture 5 60;", "draw", 2);
        aim(chain + "picture 5 2;picture 4 1;picture 5 7;", "draw", 2);
    }

    @Says("round: the least")
    static void promise10_round() {
        RailOfHeads x = Due.house("rail 9 1;room 9;" + "picture 0 9;".repeat(7) + "picture 0 60;group 1 0 round 0;");
        x.go(1);
        for (int p = 0; p < 8; p++) {
            visitor(x, 0, 5, (1 << p) - 1);
            visitor(x, 0, 7, p);
            x.go(1);
        }
        visitor(x, 0, 7, NONE);
    }

    // ---- promise 11

    @Says("RAIL and GUARD from now on: 1. BAD; STATE: no HOUSE (ahead of BAD).")
    static void promise11_rail1To20() {
        RailOfHeads x = Due.house("rail 9 0;room 40;picture 0 10;group 1 0 draw 0;group 20 0 draw 0;");
        Due.is("rule(1,0)", x.rule(1, 0), 1);
        Due.is("seen(2,0)", x.seen(2, 0), 100 + 20 * 40);
        Due.is("rule(20,0)", x.rule(20, 0), 1);
        Due.is("seen(2,0)", x.seen(2, 0), 20 * 100 + 40);
        for (int rail : new int[] {0, 21, -1, LEAST, MOST}) {
            Bounds.refused("rule(" + rail + ",2)", BAD, y -> y.rule(rail, 2));
        }
    }

    @Says("RAIL and GUARD from now on: 1. BAD; STATE: no HOUSE (ahead of BAD).")
    static void promise11_guard0To20() {
        RailOfHeads x = Due.house("rail 9 3;room 40;picture 0 60;group 1 0 draw 0;");
        Due.is("rule(9,0)", x.rule(9, 0), 1);
        Due.is("seen(99,0)", x.seen(99, 0), 4800);
        Due.is("rule(9,1)", x.rule(9, 1), 1);
        Due.is("seen(99,0)", x.seen(99, 0), 600);
        Due.is("rule(9,20)", x.rule(9, 20), 1);
        Due.is("seen(99,0)", x.seen(99, 0), 4800);
        for (int guard : new int[] {-1, 21, LEAST, MOST}) {
            Bounds.refused("rule(5," + guard + ")", BAD, y -> y.rule(5, guard));
        }
    }

    @Says("STATE: no HOUSE (ahead of BAD)")
    static void promise11_noHouse() {
        Bounds.refusedBare("rule(1,0)", STATE, x -> x.rule(1, 0));
        Bounds.refusedBare("rule(0,0)", STATE, x -> x.rule(0, 0));
        Bounds.refusedBare("rule(1,21)", STATE, x -> x.rule(1, 21));
        RailOfHeads x = new RailOfHeads();
        x.rule(20, 20);
        Due.read(x, "rail 1 0;room 9;picture 0 60;group 2 0 draw 0;");
        Due.is("what was refused is not kept", x.seen(99, 0), 4800 + 1920);
    }

    @Says("RAIL and GUARD from now on")
    static void promise11_fromNowOn() {
        RailOfHeads x = Due.house("rail 1 0;room 9;picture 0 10;group 2 0 draw 0;");
        x.go(2);
        x.rule(2, 0);
        visitor(x, 1, 4, 40);
        x.go(1);
        visitor(x, 1, 4, 140);
        x.rule(1, 0);
        x.go(1);
        visitor(x, 1, 4, 180);
    }

    // ---- promise 12

    @Says("Numbers go from 0 on.")
    static void promise12_noSuchVisitor() {
        RailOfHeads x = Scene.lived();
        visitor(x, 0, 0, 0);
        visitor(x, 4, 0, 1);
        for (int v : new int[] {-1, 5, 30, LEAST, MOST}) {
            for (int what : new int[] {0, 8}) {
                Bounds.refused("visitor(" + v + "," + what + ")", BAD, y -> y.visitor(v, what));
            }
        }
        Bounds.refusedBare("visitor(0,0) without a house", BAD, y -> y.visitor(0, 0));
        x = Due.house("rail 9 0;room 9;picture 0 9;" + "group 5 0 draw 3;".repeat(6));
        visitor(x, 29, 0, 5);
        visitor(x, 30, 0, BAD);
    }

    @Says("8 for how many minutes he has looked at it. BAD.")
    static void promise12_noSuchWhat() {
        for (int what : new int[] {-1, 9, LEAST, MOST}) {
            Bounds.refused("visitor(0," + what + ")", BAD, y -> y.visitor(0, what));
        }
    }

    @Says("1 his ROOM (NONE: to come, or OUT), 2 whether OUT (1, 0)")
    static void promise12_toComeOrOut() {
        RailOfHeads x = Due.house("rail 9 0;room 9;picture 0 1;group 1 1 draw 3;");
        isToCome(x, 0);
        x.go(1);
        isToCome(x, 0);
        x.go(1);
        isIn(x, 0, 0);
        x.go(2);
        isIn(x, 0, 0);
        x.go(1);
        isOut(x, 0);
    }

    @Says("7 his AIM (NONE: also to come, OUT)")
    static void promise12_noAim() {
        RailOfHeads x = Due.house("rail 9 0;room 9;picture 0 1;group 1 1 draw 3;");
        int[] aims = {NONE, NONE, 0, 0, NONE, NONE};
        int[] looked = {0, 0, 0, 1, 0, 0};
        for (int minute = 0; minute < aims.length; minute++) {
            visitor(x, 0, 7, aims[minute]);
            visitor(x, 0, 8, looked[minute]);
            x.go(1);
        }
    }

    @Says("8 for how many minutes he has looked at it")
    static void promise12_minutesAtTheAim() {
        RailOfHeads x = Due.house("rail 9 0;room 9;" + "picture 0 1;".repeat(7) + "picture 0 60;group 2 0 round 0;group 1 0 draw 0;");
        x.go(1);
        for (int minute = 0; minute < 14 + 7; minute++) {
            visitor(x, 1, 7, Math.min(7, minute / 2));
            visitor(x, 1, 8, minute < 14 ? minute % 2 : minute - 14);
            visitor(x, 2, 7, minute < 8 ? 7 : minute < 10 ? 0 : minute < 20 ? (minute - 8) / 2 : 6);
            visitor(x, 2, 8, minute < 8 ? minute : minute % 2);
            x.go(1);
        }
    }

    @Says("Sets are bits.")
    static void promise12_bits() {
        // the second one misses the first and the last picture, which hang in a room that is full
        RailOfHeads x = Due.house("rail 9 1;room 9;room 1;door 0 1 one;picture 1 60;" + "picture 0 9;".repeat(6) + "picture 1 60;"
                + "group 1 0 first 0;group 1 0 first 0;");
        x.go(2);
        isIn(x, 0, 1);
        visitor(x, 1, 5, 1);
        visitor(x, 1, 6, 1);
        x.go(1);
        visitor(x, 0, 5, 1);
        visitor(x, 1, 5, 129);
        visitor(x, 1, 6, 129);
        x.go(6);
        visitor(x, 0, 5, 129);
        visitor(x, 0, 6, 0);
        visitor(x, 1, 5, 255);
        visitor(x, 1, 6, 129);
        visitor(x, 1, 4, 6 * 90);
    }

    // ---- promise 13

    @Says("Of a ROOM: 0 HOLDS, 1 how many are in it. BAD.")
    static void promise13_noSuchRoom() {
        RailOfHeads x = Scene.lived();
        Due.is("room(0,0)", x.room(0, 0), 3);
        Due.is("room(1,0)", x.room(1, 0), 1);
        for (int room : new int[] {-1, 2, 6, LEAST, MOST}) {
            Bounds.refused("room(" + room + ",0)", BAD, y -> y.room(room, 0));
            Bounds.refused("room(" + room + ",1)", BAD, y -> y.room(room, 1));
        }
        Bounds.refusedBare("room(0,0) without a house", BAD, y -> y.room(0, 0));
        x = Due.house(SIX_ROOMS + "picture 0 9;group 1 0 draw 3;");
        Due.is("room(5,0)", x.room(5, 0), 9);
        Due.is("room(6,0)", x.room(6, 0), BAD);
    }

    @Says("Of a ROOM: 0 HOLDS, 1 how many are in it. BAD.")
    static void promise13_noSuchWhat() {
        for (int what : new int[] {-1, 2, LEAST, MOST}) {
            Bounds.refused("room(0," + what + ")", BAD, y -> y.room(0, what));
        }
    }

    @Says("1 how many are in it")
    static void promise13_noneToFull() {
        RailOfHeads x = Due.house("rail 9 0;room 40;picture 0 1;" + "group 5 0 draw 3;".repeat(6));
        int[] due = {0, 30, 30, 30, 0};
        for (int minute = 0; minute < due.length; minute++) {
            Due.is("minute " + minute + ": room(0,1)", x.room(0, 1), due[minute]);
            x.go(1);
        }
    }
}
