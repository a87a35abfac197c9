/** Promises 2 to 5 (row, set, copy, drop), with 28 (count of ROWS) and 29 (status). */
public final class RowsTest {
    public static void main(String[] args) {
        rowsAreMade();
        itemsAreCut();
        itemsAreNothingAtFirst();
        itemsAreCopied();
        rowsAreDropped();
        statusStaysOverRefusals();
        Due.end();
    }

    private static void rowsAreMade() {
        RailOfHeads x = new RailOfHeads();
        Due.is("status of a new one", x.status(), 0);
        Due.is("row(0,0,0)", x.row(0, 0, 0), 0);
        Due.is("row(7,2,40)", x.row(7, 2, 40), 40);
        Due.is("count(0)", x.count(0), 2);
        Due.is("row(8,0,1)", x.row(8, 0, 1), Due.BAD);
        Due.is("row(-1,0,1)", x.row(-1, 0, 1), Due.BAD);
        Due.is("row(0,3,1)", x.row(0, 3, 1), Due.BAD);
        Due.is("row(0,-1,1)", x.row(0, -1, 1), Due.BAD);
        Due.is("row(0,0,41)", x.row(0, 0, 41), Due.BAD);
        Due.is("row(0,0,most)", x.row(0, 0, Due.MOST), Due.BAD);
        Due.is("row(8,0,-1): BAD is ahead", x.row(8, 0, -1), Due.BAD);
        Due.is("row(0,0,-1)", x.row(0, 0, -1), Due.SIZE);
        Due.is("row(0,0,least)", x.row(0, 0, Due.LEAST), Due.SIZE);
        Due.is("status", x.status(), 4);
        x.set(7, 39, 5);
        Due.is("row(7,2,-1) leaves what is there", x.row(7, 2, -1), Due.SIZE);
        Due.is("copy onto itself", x.copy(7, 39, 7, 0, 1), 1);
        Due.is("row(7,2,40) anew", x.row(7, 2, 40), 40);
        Due.is("count(0)", x.count(0), 2);
    }

    private static void itemsAreCut() {
        RailOfHeads x = new RailOfHeads();
        Due.is("set of a missing row", x.set(0, 0, 1), Due.NULL);
        Due.is("status", x.status(), 1);
        x.row(0, 0, 2);
        x.row(1, 1, 2);
        x.row(2, 2, 2);
        int[] values = {0, 1, 127, 128, 200, 255, 256, -1, -129, 32767, 32768, 65535, 65536, -32769, Due.MOST, Due.LEAST};
        for (int v : values) {
            Due.is("set(0,0," + v + ")", x.set(0, 0, v), (byte) v);
            Due.is("set(1,1," + v + ")", x.set(1, 1, v), (short) v);
            Due.is("set(2,0," + v + ")", x.set(2, 0, v), v);
        }
        Due.is("status", x.status(), 0);
        Due.is("set(0,2,0)", x.set(0, 2, 0), Due.PLACE);
        Due.is("set(0,-1,0)", x.set(0, -1, 0), Due.PLACE);
        Due.is("set(0,most,0)", x.set(0, Due.MOST, 0), Due.PLACE);
        Due.is("status", x.status(), 2);
        Due.is("set(8,0,0)", x.set(8, 0, 0), Due.BAD);
        Due.is("set(-1,0,0)", x.set(-1, 0, 0), Due.BAD);
        x.row(3, 0, 0);
        Due.is("set in a row of none", x.set(3, 0, 0), Due.PLACE);
    }

    /** Which item is what is seen by counts(): an ITEM above 30 is BAD there, one that is not is a LAW. */
    private static int[] itemsOf(RailOfHeads x, int row, int n) {
        int[] bad = new int[n];
        for (int i = 0; i < n; i++) {
            bad[i] = x.counts(0, row, i, 1) == Due.BAD ? 1 : 0;
        }
        return bad;
    }

    private static void bad(RailOfHeads x, int row, String due) {
        int[] got = itemsOf(x, row, due.length());
        for (int i = 0; i < due.length(); i++) {
            Due.is("item " + i + " of row " + row + " is above 30", got[i], due.charAt(i) - '0');
        }
    }

    private static void itemsAreNothingAtFirst() {
        RailOfHeads x = Due.house("rail 1 0;room 2;picture 0 20;group 3 0 first 1;");
        x.row(0, 0, 3);
        x.set(0, 1, 99);
        x.set(0, 2, 99);
        bad(x, 0, "011");
        x.row(0, 0, 3);
        bad(x, 0, "000");
        x.set(0, 1, 99);
        Due.is("row that is refused", x.row(0, 0, -1), Due.SIZE);
        bad(x, 0, "010");
        x.drop(0);
        x.row(0, 0, 3);
        bad(x, 0, "000");
    }

    private static void itemsAreCopied() {
        RailOfHeads x = Due.house("rail 1 0;room 2;picture 0 20;group 3 0 first 1;");
        x.row(0, 2, 6);
        x.set(0, 0, 99);
        x.set(0, 1, 99);
        Due.is("forward over itself", x.copy(0, 0, 0, 1, 4), 4);
        bad(x, 0, "111000");
        Due.is("back over itself", x.copy(0, 2, 0, 1, 4), 4);
        bad(x, 0, "110000");
        x.row(1, 2, 3);
        Due.is("into another", x.copy(0, 1, 1, 0, 3), 3);
        bad(x, 1, "100");
        bad(x, 0, "110000");
        Due.is("none, at both ends", x.copy(0, 6, 1, 3, 0), 0);
        Due.is("none, beyond an end", x.copy(0, 7, 1, 3, 0), Due.PLACE);
        Due.is("none, beyond the other", x.copy(0, 6, 1, 4, 0), Due.PLACE);
        Due.is("i below 0", x.copy(0, -1, 1, 0, 1), Due.PLACE);
        Due.is("j below 0", x.copy(0, 0, 1, -1, 1), Due.PLACE);
        Due.is("n below 0", x.copy(0, 0, 1, 0, -1), Due.PLACE);
        Due.is("n too great", x.copy(0, 0, 1, 0, 4), Due.PLACE);
        Due.is("n most", x.copy(0, 1, 1, 1, Due.MOST), Due.PLACE);
        Due.is("i most", x.copy(0, Due.MOST, 1, 0, 1), Due.PLACE);
        Due.is("n least", x.copy(0, 0, 1, 0, Due.LEAST), Due.PLACE);
        Due.is("status", x.status(), 2);
        bad(x, 1, "100");
        x.row(2, 1, 6);
        Due.is("two lanes", x.copy(0, 0, 2, 0, 1), Due.STORE);
        Due.is("status", x.status(), 5);
        Due.is("two lanes, ahead of the place", x.copy(0, -1, 2, 0, 1), Due.STORE);
        Due.is("a missing one, ahead of the lanes", x.copy(0, 0, 3, 0, 1), Due.NULL);
        Due.is("a missing one, the other", x.copy(3, 0, 0, 0, 1), Due.NULL);
        Due.is("status", x.status(), 1);
        Due.is("no such row", x.copy(3, 0, 8, 0, 1), Due.BAD);
        Due.is("no such row, the other", x.copy(-1, 0, 0, 0, 1), Due.BAD);
    }

    private static void rowsAreDropped() {
        RailOfHeads x = new RailOfHeads();
        Due.is("drop of a missing one", x.drop(3), Due.NULL);
        x.row(3, 1, 17);
        Due.is("drop", x.drop(3), 17);
        Due.is("status", x.status(), 0);
        Due.is("count(0)", x.count(0), 0);
        Due.is("drop again", x.drop(3), Due.NULL);
        Due.is("set behind it", x.set(3, 0, 1), Due.NULL);
        Due.is("drop(8)", x.drop(8), Due.BAD);
        Due.is("drop(-1)", x.drop(-1), Due.BAD);
        x.row(3, 1, 0);
        Due.is("drop of a row of none", x.drop(3), 0);
    }

    private static void statusStaysOverRefusals() {
        RailOfHeads x = new RailOfHeads();
        x.set(0, 0, 0);
        Due.is("status", x.status(), 1);
        x.row(9, 0, 0);
        x.set(9, 0, 0);
        x.copy(9, 0, 0, 0, 0);
        x.drop(9);
        x.as(0, 0);
        x.counts(0, 0, 0, 1);
        x.go(1);
        x.feed(0, 9);
        Due.is("status behind refusals", x.status(), 1);
        Due.is("status once more", x.status(), 1);
        x.row(0, 0, 1);
        Due.is("status behind what has no finding", x.status(), 0);
    }
}
