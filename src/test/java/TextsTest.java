/** Promises 6 to 8 (feed, house, fault) with 28 (bytes on the tape, and how many of a sort). */
public final class TextsTest {
    private static final String RAIL = "rail 1 0;", HEAD = "rail 1 0;room 2;room 3;", TAIL = "picture 0 20;group 3 0 first 1;";

    public static void main(String[] args) {
        bytesComeBehind();
        textsAreRead();
        faultsHavePlaces();
        numbersHaveBounds();
        thereIsRoomForSoMany();
        faultsChangeNothing();
        bytesReadAreGone();
        Due.end();
    }

    private static void bytesComeBehind() {
        RailOfHeads x = new RailOfHeads();
        Due.is("feed(0,0)", x.feed(0, 0), Due.BAD);
        Due.is("feed(0,9)", x.feed(0, 9), Due.BAD);
        Due.is("feed(0,-1)", x.feed(0, -1), Due.BAD);
        for (int i = 1; i <= 49; i++) {
            Due.is("feed " + i, x.feed(-1L, 8), 8 * i);
        }
        Due.is("to 399", x.feed(-1L, 7), 399);
        Due.is("two more", x.feed(-1L, 2), Due.FULL);
        Due.is("count(8)", x.count(8), 399);
        Due.is("BAD ahead of FULL", x.feed(-1L, 9), Due.BAD);
        Due.is("one more", x.feed(-1L, 1), 400);
        Due.is("none more", x.feed(-1L, 1), Due.FULL);
        Due.is("house", x.house(), -1000100);
        Due.is("count(8)", x.count(8), 0);
        Due.is("only the lowest bytes, the highest of them first", x.feed(0x7878726169L, 3), 3);
        x.feed('l', 1);
        Due.is("house", x.house(), -1000104);
        Due.is("fault", x.fault(), 1);
    }

    private static void read(String text, int due) {
        RailOfHeads x = new RailOfHeads();
        Due.is("house() of " + text, Due.read(x, text), due);
        Due.is("fault() of " + text, x.fault(), 0);
        Due.is("bytes behind " + text, x.count(8), 0);
    }

    private static void fault(String text, int place, int number) {
        RailOfHeads x = new RailOfHeads();
        Due.is("house() of " + text, Due.read(x, text), -1000100 - place);
        Due.is("fault() of " + text, x.fault(), number);
        Due.is("rooms of " + text, x.count(1), 0);
    }

    private static void textsAreRead() {
        read(HEAD + TAIL, 3);
        read(HEAD + "door 0 1;door 1 0 one;" + TAIL, 3);
        read(" \n rail\n1 0 ;room 2;picture 0 20 ; group 3 0 first 1\n;\n ", 3);
        read("rail1 0;room2;picture0 20;group3 0first1;", 3);
        read("rail 001 000;room 002;picture 000 020;group 003 000 first 001;", 3);
        read(HEAD + TAIL + "group 7 1 draw 2;group 20 2 round 3;", 30);
        RailOfHeads x = Due.house(HEAD + "door 0 1;" + TAIL + "group 4 5 draw 6;");
        int[] due = {0, 2, 1, 1, 2, 7, 0, 0, 0};
        for (int what = 0; what < due.length; what++) {
            Due.is("count(" + what + ")", x.count(what), due[what]);
        }
        Due.is("count(9)", x.count(9), Due.BAD);
        Due.is("count(-1)", x.count(-1), Due.BAD);
        Due.is("another in its place", Due.read(x, "rail 1 0;room 9;picture 0 20;group 1 0 round 0;"), 1);
        Due.is("count(1)", x.count(1), 1);
        Due.is("count(2)", x.count(2), 0);
        Due.is("room(0,0)", x.room(0, 0), 9);
    }

    private static void faultsHavePlaces() {
        fault("", 0, 1);
        fault("  \n", 3, 1);
        fault("Rail 1 0;", 0, 1);
        fault("rails 1 0;", 0, 1);
        fault("rai 1 0;", 0, 1);
        fault("mail 1 0;", 0, 1);
        fault("rain 1 0;", 0, 1);
        fault("rail x 0;", 5, 1);
        fault("rail 1;", 6, 1);
        fault("rail 1 0 0;", 9, 1);
        fault("rail 1 0  ", 10, 1);
        fault("rail -1 0;", 5, 1);
        fault("rail 1\t0;", 6, 1);
        fault("rail 1 0;\u0000", 9, 1);
        fault("rail 1 0;\u00e9", 9, 1);
        fault("rail 0001 0;", 5, 1);
        fault(RAIL + "picture 0 5;", 9, 1);
        fault(RAIL + "door 0 1;", 9, 1);
        fault(RAIL + "rail 1 0;", 9, 1);
        fault(HEAD + "group 1 0 first 0;", 23, 1);
        fault(HEAD + "door 0 1;room 1;", 32, 1);
        fault(HEAD + "door 0 1 on;", 32, 1);
        fault(HEAD + "door 0 1 one one;", 36, 1);
        fault(HEAD + "door 0 one;", 30, 1);
        fault(HEAD + "picture 0 20;", 36, 1);
        fault(HEAD + "picture 0 20;door 0 1;", 36, 1);
        fault(HEAD + TAIL + "picture 0 1;", 54, 1);
        fault(HEAD + TAIL + "1", 54, 1);
        fault(HEAD + TAIL + "group 1 0 one 1;", 64, 1);
        fault(HEAD + TAIL + "group 1 0 1 1;", 64, 1);
        fault(HEAD + TAIL + "group 1 0 round ;", 70, 1);
        fault("rail 0 x;", 5, 2);
        fault("rail 1 x;room 0;", 7, 1);
    }

    private static void numbersHaveBounds() {
        read("rail 20 20;room 40;picture 0 60;group 20 60 draw 20;", 20);
        read("rail 1 0;room 1;picture 0 1;group 1 0 draw 0;", 1);
        fault("rail 0 0;", 5, 2);
        fault("rail 21 0;", 5, 2);
        fault("rail 999 0;", 5, 2);
        fault("rail 1 21;", 7, 2);
        fault(RAIL + "room 0;", 14, 2);
        fault(RAIL + "room 41;", 14, 2);
        fault(HEAD + "door 2 0;", 28, 2);
        fault(HEAD + "door 0 2;", 30, 2);
        fault(HEAD + "door 1 1;", 30, 2);
        fault(HEAD + "door 0 0 one;", 30, 2);
        fault(HEAD + "picture 2 5;", 31, 2);
        fault(HEAD + "picture 0 0;", 33, 2);
        fault(HEAD + "picture 0 61;", 33, 2);
        fault(HEAD + "picture 0 5;group 0 0 first 0;", 41, 2);
        fault(HEAD + "picture 0 5;group 21 0 first 0;", 41, 2);
        fault(HEAD + "picture 0 5;group 1 61 first 0;", 43, 2);
        fault(HEAD + "picture 0 5;group 1 0 first 21;", 51, 2);
        fault(HEAD + TAIL + "group 20 0 draw 0;group 8 0 draw 0;", 78, 2);
        fault(HEAD + TAIL + "group 20 0 draw 0;group 7 0 draw 0;group 1 0 draw 0;", 95, 2);
    }

    private static void thereIsRoomForSoMany() {
        String rooms = "room 2;".repeat(6), doors = "door 0 1;".repeat(9), pictures = "picture 0 1;".repeat(8);
        String groups = "group 5 0 first 1;".repeat(6);
        String rails = "rail 1 0;";
        read(rails + rooms + doors + pictures + groups, 30);
        fault(rails + rooms + "room 2;", 51, 3);
        fault(rails + rooms + "room 0;", 51, 3);
        fault(rails + rooms + doors + "door 9 9;", 132, 3);
        fault(rails + rooms + pictures + "picture", 147, 3);
        fault(rails + rooms + pictures + groups + "group 1 0 first 1;", 255, 3);
        fault(rails + rooms + pictures + groups + "room 1;", 255, 1);
        fault(rails + rooms + doors + "room 1;", 132, 1);
    }

    private static void faultsChangeNothing() {
        RailOfHeads x = Due.house(HEAD + TAIL);
        x.go(2);
        Due.is("a fault", Due.read(x, "rail 9 9;room 0;"), -1000114);
        Due.is("fault", x.fault(), 2);
        Due.is("rooms", x.count(1), 2);
        Due.is("minutes", x.count(6), 2);
        Due.is("saw", x.visitor(0, 4), 200);
        Due.is("over heads", x.visitor(1, 4), 80);
        Due.is("a house that is read", Due.read(x, HEAD + TAIL), 3);
        Due.is("the latest fault stays", x.fault(), 2);
        Due.is("minutes", x.count(6), 0);
        Due.is("in the room", x.room(0, 1), 0);
    }

    private static void bytesReadAreGone() {
        RailOfHeads x = Due.house("rail 1 0;room 2;picture 0 20;group 3 0 first 1;");
        Due.is("no name goes on in what was", Due.read(x, "ra"), -1000100);
        Due.is("no number goes on in what was", Due.read(x, "rail 20 "), -1000108);
        Due.read(x, "rail 1 0;room 2;picture 0 20;group 3 0 first 11    ");
        Due.is("fault", x.fault(), 1);
        Due.is("blanks end with the tape", Due.read(x, "rail 1 0;room 2;picture 0 20;group 3 0 first 1 "), -1000147);
        Due.is("the number is the one that is there", Due.read(x, "rail 1 0;room 2;picture 0 20;group 3 0 first 1;"), 3);
        Due.is("patience", x.visitor(0, 3), 1);
        for (int round = 0; round < 2; round++) {
            Due.is("a full tape of blanks", Due.read(x, " \n".repeat(200)), -1000500);
            Due.is("a full tape of one name", Due.read(x, "rail".repeat(100)), -1000100);
            Due.is("a full tape of one number", Due.read(x, "7".repeat(400)), -1000100);
            Due.is("a number at the end", Due.read(x, "rail" + " ".repeat(393) + "20 "), -1000500);
            Due.is("a number at the end", Due.read(x, "rail" + " ".repeat(394) + "20"), -1000500);
            Due.is("a name at the end", Due.read(x, " ".repeat(396) + "rail"), -1000500);
            Due.is("a name cut off", Due.read(x, " ".repeat(397) + "rai"), -1000497);
        }
        String text = "rail 1 0;room 2;picture 0 20;group 3 0 first 1";
        Due.is("a text that ends with the tape", Due.read(x, text + " ".repeat(399 - text.length()) + ";"), 3);
        Due.read(x, "rail 1 0;room 2;picture 0 20;group 3 0 first 15");
        Due.is("a number that goes on in what was", Due.read(x, "rail 1 0;room 2;picture 0 20;group 3 0 first 1"), -1000146);
        Due.is("rail", Due.read(x, "rail 20"), -1000107);
        Due.is("a number below what was", Due.read(x, "rail 2"), -1000106);
        Due.is("another number", Due.read(x, "rail 99"), -1000105);
        Due.is("9, of 99", Due.read(x, "rail 9"), -1000106);
        Due.is("a name below what was", Due.read(x, "rails"), -1000100);
        Due.is("rail, of rails", Due.read(x, "rail"), -1000104);
    }
}
