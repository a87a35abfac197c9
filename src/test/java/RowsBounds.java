/** Boundaries of promises 2 to 5: row, set, copy, drop. */
final class RowsBounds {
    private static final int BAD = Due.BAD, NULL = Due.NULL, PLACE = Due.PLACE, SIZE = Due.SIZE, STORE = Due.STORE;
    private static final int LEAST = Due.LEAST, MOST = Due.MOST;
    private static final int[] NO_ROWS = {-1, 8, LEAST, MOST};

    // behind minute 1 one is in room 1 by draw, none by the other laws: so counts() tells 0 from 1 to 30
    private static final String READER = "rail 9 0;room 9;room 9;room 9;door 0 1;door 0 2;picture 2 1;picture 1 60;"
            + "group 1 0 first 0;";

    private RowsBounds() {
    }

    /** A sign for each ITEM of a ROW: 0, + (1 to 30), x (another). ROW 7 is used for it. */
    private static void items(RailOfHeads x, int row, int lane, String due) {
        StringBuilder got = new StringBuilder();
        x.row(7, lane, 2);
        for (int i = 0; i <= 40 && x.copy(row, i, 7, 1, 1) == 1; i++) {
            int law = x.counts(1, 7, 0, 2);
            got.append(law == BAD ? 'x' : law == 0 ? '0' : '+');
        }
        Due.holds("items of row " + row + " are " + got + ", due is " + due, due.contentEquals(got));
    }

    private static RailOfHeads reader(int row, int lane, int... items) {
        RailOfHeads x = Due.house(READER);
        x.row(row, lane, items.length);
        for (int i = 0; i < items.length; i++) {
            x.set(row, i, items[i]);
        }
        return x;
    }

    // ---- promise 2

    @Says("ROWS 0 .. 7")
    static void promise02_rows0To7() {
        RailOfHeads x = new RailOfHeads();
        for (int r = 0; r < 8; r++) {
            Due.is("row(" + r + ",1,3)", x.row(r, 1, 3), 3);
            Due.is("count(0)", x.count(0), r + 1);
        }
        for (int r : NO_ROWS) {
            Bounds.refused("row(" + r + ",0,1)", BAD, y -> y.row(r, 0, 1));
        }
    }

    @Says("a LANE (0 bytes, 1 shorts, 2 ints)")
    static void promise02_lanes0To2() {
        RailOfHeads x = new RailOfHeads();
        int[] due = {64, -25536, 40000};
        for (int lane = 0; lane < 3; lane++) {
            Due.is("row(0," + lane + ",1)", x.row(0, lane, 1), 1);
            Due.is("set(0,0,40000) in lane " + lane, x.set(0, 0, 40000), due[lane]);
        }
        for (int lane : new int[] {-1, 3, LEAST, MOST}) {
            Bounds.refused("row(0," + lane + ",1)", BAD, y -> y.row(0, lane, 1));
        }
    }

    @Says("n above 40")
    static void promise02_nAbove40() {
        RailOfHeads x = new RailOfHeads();
        for (int lane = 0; lane < 3; lane++) {
            Due.is("row(0," + lane + ",40)", x.row(0, lane, 40), 40);
            Due.is("set(0,39,7)", x.set(0, 39, 7), 7);
            Due.is("set(0,40,7)", x.set(0, 40, 7), PLACE);
        }
        Bounds.refused("row(0,2,41)", BAD, y -> y.row(0, 2, 41));
        Bounds.refused("row(0,2,most)", BAD, y -> y.row(0, 2, MOST));
    }

    @Says("4 SIZE (fewer than none)")
    static void promise02_nBelow0() {
        RailOfHeads x = new RailOfHeads();
        Due.is("row(5,0,0)", x.row(5, 0, 0), 0);
        Due.is("a row of none is no missing one", x.count(0), 1);
        Due.is("set(5,0,0)", x.set(5, 0, 0), PLACE);
        Bounds.refused("row(0,0,-1)", SIZE, y -> y.row(0, 0, -1));
        Bounds.refused("row(0,2,least)", SIZE, y -> y.row(0, 2, LEAST));
        Bounds.refused("row(7,2,-1), which stays missing", SIZE, y -> y.row(7, 2, -1));
        Bounds.refusedBare("row(0,1,-1) without a house", SIZE, y -> y.row(0, 1, -1));
    }

    @Says("Refusals are answers, the first of these that fits, but as told: BAD (a number is not as told; there is no such thing), STATE (as told), FULL (as told), then FINDINGS")
    static void promise02_badAheadOfSize() {
        Bounds.refused("row(8,0,-1)", BAD, y -> y.row(8, 0, -1));
        Bounds.refused("row(-1,0,-1)", BAD, y -> y.row(-1, 0, -1));
        Bounds.refused("row(0,3,-1)", BAD, y -> y.row(0, 3, -1));
        Bounds.refused("row(0,-1,-1)", BAD, y -> y.row(0, -1, -1));
    }

    @Says("0 to 40 ITEMS, 0 at first")
    static void promise02_itemsAre0AtFirst() {
        for (int lane = 0; lane < 3; lane++) {
            RailOfHeads x = reader(0, lane, 1, 30, 31, -1, 0);
            items(x, 0, lane, "++xx0");
            x.row(0, lane, 5);
            items(x, 0, lane, "00000");
            x.row(0, lane, 40);
            items(x, 0, lane, "0".repeat(40));
        }
    }

    @Says("A ROW of a LANE with n ITEMS, in place of what is there: n.")
    static void promise02_inPlaceOfWhatIsThere() {
        RailOfHeads x = reader(0, 2, 9, 9, 9, 9, 9);
        Due.is("shorter, of bytes", x.row(0, 0, 2), 2);
        items(x, 0, 0, "00");
        Due.is("set(0,1,300)", x.set(0, 1, 300), 44);
        Due.is("set(0,2,1)", x.set(0, 2, 1), PLACE);
        Due.is("longer, of shorts", x.row(0, 1, 6), 6);
        items(x, 0, 1, "000000");
        Due.is("of none", x.row(0, 1, 0), 0);
        Due.is("set(0,0,1)", x.set(0, 0, 1), PLACE);
        Due.is("longer again", x.row(0, 2, 5), 5);
        items(x, 0, 2, "00000");
    }

    // ---- promise 3

    @Says("BAD: ROW; NULL; PLACE.")
    static void promise03_rows0To7() {
        RailOfHeads x = new RailOfHeads();
        x.row(0, 2, 1);
        x.row(7, 2, 1);
        Due.is("set(0,0,5)", x.set(0, 0, 5), 5);
        Due.is("set(7,0,6)", x.set(7, 0, 6), 6);
        for (int r : NO_ROWS) {
            Bounds.refused("set(" + r + ",0,1)", BAD, y -> y.set(r, 0, 1));
        }
    }

    @Says("1 NULL (a ROW that is missing)")
    static void promise03_aRowThatIsMissing() {
        Bounds.refused("set(4,0,1)", NULL, y -> y.set(4, 0, 1));
        Bounds.refused("set(7,0,1)", NULL, y -> y.set(7, 0, 1));
        Bounds.refusedBare("set(4,0,1) without a house", NULL, y -> y.set(4, 0, 1));
    }

    @Says("then FINDINGS, of several the first in time")
    static void promise03_theFirstOfSeveral() {
        Bounds.refused("set(4,-1,1), NULL ahead of PLACE", NULL, y -> y.set(4, -1, 1));
        Bounds.refused("set(8,-1,1), BAD ahead of all", BAD, y -> y.set(8, -1, 1));
    }

    @Says("2 PLACE (no such place of a ROW)")
    static void promise03_noSuchPlace() {
        RailOfHeads x = new RailOfHeads();
        for (int n = 1; n <= 40; n++) {
            x.row(0, 2, n);
            Due.is("the first of " + n, x.set(0, 0, n), n);
            Due.is("the last of " + n, x.set(0, n - 1, -n), -n);
            Due.is("behind the last of " + n, x.set(0, n, 1), PLACE);
            Due.is("ahead of the first of " + n, x.set(0, -1, 1), PLACE);
        }
        for (int i : new int[] {-1, 3, 40, LEAST, MOST}) {
            Bounds.refused("set(0," + i + ",1)", PLACE, y -> y.set(0, i, 1));
        }
        Bounds.refused("set(2,0,1), a row of none", PLACE, y -> y.set(2, 0, 1));
    }

    @Says("ITEM i becomes v, its lowest bits, as many as the LANE has: what it is then.")
    static void promise03_bytesWrapAround() {
        int[] values = {0, 127, 128, 255, 256, -1, -128, -129, -256, MOST, LEAST};
        int[] due = {0, 127, -128, -1, 0, -1, -128, 127, 0, -1, 0};
        wraps(0, values, due);
    }

    @Says("ITEM i becomes v, its lowest bits, as many as the LANE has: what it is then.")
    static void promise03_shortsWrapAround() {
        int[] values = {0, 128, 32767, 32768, 65535, 65536, -1, -32768, -32769, MOST, LEAST};
        int[] due = {0, 128, 32767, -32768, -1, 0, -1, -32768, 32767, -1, 0};
        wraps(1, values, due);
    }

    @Says("ITEM i becomes v, its lowest bits, as many as the LANE has: what it is then.")
    static void promise03_intsKeepAll() {
        int[] values = {0, 32768, 65536, -32769, MOST, LEAST};
        wraps(2, values, values);
    }

    private static void wraps(int lane, int[] values, int[] due) {
        RailOfHeads x = new RailOfHeads();
        x.row(0, lane, 2);
        for (int i = 0; i < values.length; i++) {
            Due.is("set(0,1," + values[i] + ") in lane " + lane, x.set(0, 1, values[i]), due[i]);
        }
        Due.is("status()", x.status(), 0);
    }

    @Says("ITEM i becomes v, its lowest bits, as many as the LANE has: what it is then.")
    static void promise03_whatItIsIsKept() {
        RailOfHeads x = reader(0, 0, 256, 257, 0, 286, 287, 511);
        items(x, 0, 0, "0+0+xx");
        x = reader(0, 1, 65536, 65537, 256, 31);
        items(x, 0, 1, "0+xx");
        x.set(0, 1, 0);
        items(x, 0, 1, "00xx");
    }

    // ---- promise 4

    @Says("BAD: ROWS; NULL; STORE; PLACE (i, j, n below 0, or beyond an end).")
    static void promise04_rows0To7() {
        RailOfHeads x = new RailOfHeads();
        x.row(0, 2, 1);
        x.row(7, 2, 1);
        Due.is("copy(0,0,7,0,1)", x.copy(0, 0, 7, 0, 1), 1);
        Due.is("copy(7,0,0,0,1)", x.copy(7, 0, 0, 0, 1), 1);
        for (int r : NO_ROWS) {
            Bounds.refused("copy(" + r + ",0,0,0,1)", BAD, y -> y.copy(r, 0, 0, 0, 1));
            Bounds.refused("copy(0,0," + r + ",0,1)", BAD, y -> y.copy(0, 0, r, 0, 1));
        }
    }

    @Says("then FINDINGS, of several the first in time")
    static void promise04_theFirstOfSeveral() {
        for (int r : NO_ROWS) {
            Bounds.refused("BAD ahead of NULL", BAD, y -> y.copy(4, 0, r, 0, 1));
            Bounds.refused("BAD ahead of NULL, the other", BAD, y -> y.copy(r, 0, 4, 0, 1));
            Bounds.refused("BAD ahead of PLACE", BAD, y -> y.copy(r, -1, 0, 0, -1));
        }
        Bounds.refused("NULL ahead of PLACE", NULL, y -> y.copy(4, -1, 0, 0, 1));
        Bounds.refused("NULL ahead of PLACE, the other", NULL, y -> y.copy(0, 9, 4, -1, -1));
        Bounds.refused("STORE ahead of PLACE", STORE, y -> y.copy(0, -1, 1, -1, -1));
        Bounds.refused("STORE ahead of beyond", STORE, y -> y.copy(0, 3, 2, 1, 1));
    }

    @Says("1 NULL (a ROW that is missing)")
    static void promise04_aRowThatIsMissing() {
        Bounds.refused("from a missing one", NULL, y -> y.copy(4, 0, 0, 0, 1));
        Bounds.refused("to a missing one", NULL, y -> y.copy(0, 0, 4, 0, 1));
        Bounds.refused("both are missing", NULL, y -> y.copy(4, 0, 5, 0, 0));
        Bounds.refused("none, to a missing one", NULL, y -> y.copy(0, 0, 4, 0, 0));
    }

    @Says("5 STORE (ROWS of two LANES)")
    static void promise04_rowsOfTwoLanes() {
        RailOfHeads x = new RailOfHeads();
        for (int lane = 0; lane < 3; lane++) {
            x.row(lane, lane, 2);
            x.row(lane + 3, lane, 2);
        }
        for (int a = 0; a < 6; a++) {
            for (int b = 0; b < 6; b++) {
                Due.is("copy(" + a + ",0," + b + ",0,2)", x.copy(a, 0, b, 0, 2), a % 3 == b % 3 ? 2 : STORE);
            }
        }
        Bounds.refused("bytes to shorts", STORE, y -> y.copy(0, 0, 1, 0, 1));
        Bounds.refused("shorts to bytes", STORE, y -> y.copy(1, 0, 0, 0, 1));
        Bounds.refused("none of them", STORE, y -> y.copy(0, 0, 2, 0, 0));
    }

    @Says("PLACE (i, j, n below 0, or beyond an end)")
    static void promise04_below0() {
        Bounds.refused("i", PLACE, y -> y.copy(0, -1, 3, 0, 1));
        Bounds.refused("j", PLACE, y -> y.copy(0, 0, 3, -1, 1));
        Bounds.refused("n", PLACE, y -> y.copy(0, 0, 3, 0, -1));
        Bounds.refused("i, none of them", PLACE, y -> y.copy(0, -1, 3, 0, 0));
        Bounds.refused("j, none of them", PLACE, y -> y.copy(0, 0, 3, -1, 0));
        Bounds.refused("n, at the ends", PLACE, y -> y.copy(0, 3, 3, 2, -1));
        Bounds.refused("i least", PLACE, y -> y.copy(0, LEAST, 3, 0, 1));
        Bounds.refused("j least", PLACE, y -> y.copy(0, 0, 3, LEAST, 1));
        Bounds.refused("n least", PLACE, y -> y.copy(0, 0, 3, 0, LEAST));
    }

    @Says("PLACE (i, j, n below 0, or beyond an end)")
    static void promise04_beyondAnEnd() {
        RailOfHeads x = Scene.lived();
        Due.is("all that the shorter has", x.copy(0, 0, 3, 0, 2), 2);
        Due.is("to the end of both", x.copy(0, 1, 3, 0, 2), 2);
        Due.is("all of itself", x.copy(0, 0, 0, 0, 3), 3);
        Due.is("none, at both ends", x.copy(0, 3, 3, 2, 0), 0);
        Due.is("none of none", x.copy(2, 0, 2, 0, 0), 0);
        Bounds.refused("beyond the end of a", PLACE, y -> y.copy(0, 2, 3, 0, 2));
        Bounds.refused("beyond the end of b", PLACE, y -> y.copy(0, 0, 3, 1, 2));
        Bounds.refused("more than b has", PLACE, y -> y.copy(0, 0, 3, 0, 3));
        Bounds.refused("more than a has", PLACE, y -> y.copy(3, 0, 0, 0, 3));
        Bounds.refused("none, beyond the end of a", PLACE, y -> y.copy(0, 4, 3, 2, 0));
        Bounds.refused("none, beyond the end of b", PLACE, y -> y.copy(0, 3, 3, 3, 0));
        Bounds.refused("one of none", PLACE, y -> y.copy(2, 0, 2, 0, 1));
    }

    @Says("PLACE (i, j, n below 0, or beyond an end)")
    static void promise04_sumsDoNotWrapAround() {
        Bounds.refused("n most", PLACE, y -> y.copy(0, 0, 3, 0, MOST));
        Bounds.refused("n most from 1 on", PLACE, y -> y.copy(0, 1, 3, 1, MOST));
        Bounds.refused("i most", PLACE, y -> y.copy(0, MOST, 3, 0, 1));
        Bounds.refused("j most", PLACE, y -> y.copy(0, 0, 3, MOST, 1));
        Bounds.refused("all most", PLACE, y -> y.copy(0, MOST, 3, MOST, MOST));
        Bounds.refused("i most, none of them", PLACE, y -> y.copy(0, MOST, 3, 0, 0));
    }

    @Says("n ITEMS of a from i on come to b from j on, as they were ahead: n.")
    static void promise04_asTheyWereAhead() {
        RailOfHeads x = reader(0, 0, 9, 0, 99, 0, 9);
        Due.is("forward over itself", x.copy(0, 0, 0, 1, 4), 4);
        items(x, 0, 0, "++0x0");
        Due.is("back over itself", x.copy(0, 1, 0, 0, 4), 4);
        items(x, 0, 0, "+0x00");
        Due.is("onto itself", x.copy(0, 0, 0, 0, 5), 5);
        items(x, 0, 0, "+0x00");
    }

    @Says("n ITEMS of a from i on come to b from j on, as they were ahead: n.")
    static void promise04_noItemMore() {
        RailOfHeads x = reader(0, 1, 9, 99, 9, 99, 9);
        x.row(1, 1, 5);
        Due.is("two from 1 on to 2 on", x.copy(0, 1, 1, 2, 2), 2);
        items(x, 1, 1, "00x+0");
        items(x, 0, 1, "+x+x+");
        Due.is("none", x.copy(0, 0, 1, 0, 0), 0);
        items(x, 1, 1, "00x+0");
        x.row(2, 1, 40);
        x.row(3, 1, 40);
        x.set(2, 39, 9);
        Due.is("40 of them", x.copy(2, 0, 3, 0, 40), 40);
        items(x, 3, 1, "0".repeat(39) + "+");
    }

    // ---- promise 5

    @Says("A ROW is missing from now on: how many ITEMS it had. BAD; NULL.")
    static void promise05_rows0To7() {
        RailOfHeads x = new RailOfHeads();
        x.row(0, 0, 3);
        x.row(7, 0, 4);
        Due.is("drop(0)", x.drop(0), 3);
        Due.is("drop(7)", x.drop(7), 4);
        for (int r : NO_ROWS) {
            Bounds.refused("drop(" + r + ")", BAD, y -> y.drop(r));
        }
    }

    @Says("how many ITEMS it had")
    static void promise05_noneAnd40() {
        RailOfHeads x = new RailOfHeads();
        x.row(3, 1, 0);
        Due.is("drop of none", x.drop(3), 0);
        x.row(3, 1, 40);
        Due.is("drop of 40", x.drop(3), 40);
    }

    @Says("1 NULL (a ROW that is missing)")
    static void promise05_aRowThatIsMissing() {
        Bounds.refused("drop(4)", NULL, y -> y.drop(4));
        RailOfHeads x = Scene.lived();
        Due.is("drop(0)", x.drop(0), 3);
        Due.is("drop(0) again", x.drop(0), NULL);
        Due.is("set(0,0,1)", x.set(0, 0, 1), NULL);
        Due.is("copy(0,0,3,0,0)", x.copy(0, 0, 3, 0, 0), NULL);
        Due.is("counts(0,0,0,1)", x.counts(0, 0, 0, 1), NULL);
        Due.is("the others stay", x.count(0), 3);
        Due.is("drop(3)", x.drop(3), 2);
    }

    @Says("0 to 40 ITEMS, 0 at first")
    static void promise05_whatItHadIsGone() {
        RailOfHeads x = reader(0, 2, 9, 99, 9);
        x.drop(0);
        x.row(0, 2, 3);
        items(x, 0, 2, "000");
    }
}
