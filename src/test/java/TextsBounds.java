/** Boundaries of promises 6 to 8: feed, house, fault. In a text with a FAULT its place is marked by ^. */
final class TextsBounds {
    private static final int BAD = Due.BAD, FULL = Due.FULL;
    private static final String RAIL = "rail 1 0;", HEAD = RAIL + "room 2;room 3;";
    private static final String PICTURE = "picture 0 20;", GROUP = "group 3 0 first 1;", TAIL = PICTURE + GROUP;
    private static final String SIX_ROOMS = "room 2;".repeat(6), NINE_DOORS = "door 0 1;".repeat(9);
    private static final String EIGHT_PICTURES = "picture 0 1;".repeat(8), SIX_GROUPS = "group 5 0 first 1;".repeat(6);

    private TextsBounds() {
    }

    private static RailOfHeads read(String text, int visitors) {
        RailOfHeads x = new RailOfHeads();
        Due.is("house() of " + text, Due.read(x, text), visitors);
        Due.is("fault() of " + text, x.fault(), 0);
        Due.is("count(8) behind " + text, x.count(8), 0);
        return x;
    }

    /** On a new object, and in a house that has been used, where all stays. */
    private static void fault(String marked, int number) {
        int place = marked.indexOf('^');
        String text = marked.substring(0, place) + marked.substring(place + 1);
        RailOfHeads fresh = new RailOfHeads();
        Due.is("house() of " + marked, Due.read(fresh, text), -1000100 - place);
        Due.is("fault() of " + marked, fresh.fault(), number);
        Due.is("count(8) behind " + marked, fresh.count(8), 0);
        Due.is("count(1) behind " + marked, fresh.count(1), 0);
        RailOfHeads used = Scene.lived();
        used.house();
        Due.is("house() of " + marked + " in place of one", Due.read(used, text), -1000100 - place);
        Due.is("fault() of " + marked + " in place of one", used.fault(), number);
        Due.is("count(8) behind " + marked + " in place of one", used.count(8), 0);
        Due.is("status() behind " + marked, used.status(), 5);
        Bounds.same(marked, Portrait.butTheTape(used), Portrait.butTheTape(Scene.lived()));
    }

    // ---- promise 6

    @Says("The lowest n bytes of w (1 to 8)")
    static void promise06_n1To8() {
        RailOfHeads x = new RailOfHeads();
        int bytes = 0;
        for (int n = 1; n <= 8; n++) {
            bytes += n;
            Due.is("feed(0," + n + ")", x.feed(0, n), bytes);
            Due.is("count(8)", x.count(8), bytes);
        }
        for (int n : new int[] {0, 9, -1, 16, Due.LEAST, Due.MOST}) {
            Bounds.refused("feed(w," + n + ")", BAD, y -> y.feed(0x3131313131313131L, n));
            Bounds.refusedBare("feed(w," + n + ") without a house", BAD, y -> y.feed(0x3131313131313131L, n));
        }
    }

    @Says("the highest of them first")
    static void promise06_theHighestFirst() {
        String text = HEAD + TAIL;
        for (int n = 1; n <= 8; n++) {
            RailOfHeads x = new RailOfHeads();
            for (int i = 0; i < text.length(); i += n) {
                String part = text.substring(i, Math.min(text.length(), i + n));
                // what stands above the lowest bytes is no part of it
                long w = 0x7878787878787878L;
                for (char c : part.toCharArray()) {
                    w = w << 8 | c;
                }
                Due.is("feed by " + n, x.feed(w, part.length()), i + part.length());
            }
            Due.is("house() fed by " + n, x.house(), 3);
        }
    }

    @Says("The lowest n bytes of w (1 to 8)")
    static void promise06_bytesAbove127() {
        for (int b : new int[] {127, 128, 255}) {
            RailOfHeads x = new RailOfHeads();
            x.feed(0x7261696cL, 4);
            Due.is("feed of byte " + b, x.feed(b, 1), 5);
            Due.is("house()", x.house(), -1000104);
            Due.is("fault()", x.fault(), 1);
        }
        RailOfHeads x = new RailOfHeads();
        Due.is("feed(-1,8)", x.feed(-1L, 8), 8);
        Due.is("house()", x.house(), -1000100);
    }

    /** n blanks. */
    private static RailOfHeads fedWith(int n) {
        RailOfHeads x = new RailOfHeads();
        Due.feed(x, " ".repeat(n));
        return x;
    }

    @Says("THE TAPE has at most 400 bytes")
    static void promise06_400Bytes() {
        for (int n = 1; n <= 8; n++) {
            Due.is("feed of " + n + " to 400", fedWith(400 - n).feed(0, n), 400);
            Due.is("feed of " + n + " to 401", fedWith(401 - n).feed(0, n), FULL);
            Due.is("feed of " + n + " beyond 400", fedWith(400).feed(0, n), FULL);
        }
        String text = HEAD + TAIL;
        RailOfHeads x = fedWith(400 - text.length());
        Due.feed(x, text);
        Due.is("count(8)", x.count(8), 400);
        Due.is("house() of 400 bytes", x.house(), 3);
        Due.is("count(8)", x.count(8), 0);
        Due.is("there is room again", x.feed(0, 8), 8);
    }

    @Says("FULL: none comes")
    static void promise06_noneComes() {
        String text = HEAD + TAIL;
        String most = " ".repeat(400 - text.length()) + text.substring(0, text.length() - 1);
        RailOfHeads x = new RailOfHeads();
        Due.feed(x, most);
        Due.is("feed(';',2)", x.feed(';' << 8 | ' ', 2), FULL);
        Due.is("count(8)", x.count(8), 399);
        Due.is("feed(';',1)", x.feed(';', 1), 400);
        Due.is("feed(';',1) again", x.feed(';', 1), FULL);
        Due.is("house()", x.house(), 3);
        x = new RailOfHeads();
        Due.feed(x, most);
        Due.is("feed(';',8)", x.feed((long) ';' << 56, 8), FULL);
        Due.is("the sign has not come", x.house(), -1000499);
        Bounds.refusedIn(TextsBounds::livedFull, "feed(w,1)", FULL, y -> y.feed('1', 1));
        Bounds.refusedIn(TextsBounds::livedFull, "feed(w,8)", FULL, y -> y.feed(-1L, 8));
    }

    private static RailOfHeads livedFull() {
        RailOfHeads x = Scene.lived();
        Due.feed(x, " ".repeat(400 - x.count(8)));
        Due.is("count(8) of a full tape", x.count(8), 400);
        return x;
    }

    @Says("Refusals are answers, the first of these that fits, but as told: BAD (a number is not as told; there is no such thing), STATE (as told), FULL (as told), then FINDINGS")
    static void promise06_badAheadOfFull() {
        Bounds.refusedIn(TextsBounds::livedFull, "feed(w,0)", BAD, y -> y.feed('1', 0));
        Bounds.refusedIn(TextsBounds::livedFull, "feed(w,9)", BAD, y -> y.feed('1', 9));
    }

    // ---- promise 7: the tape

    @Says("The tape, empty then, is read")
    static void promise07_theTapeIsEmptyThen() {
        RailOfHeads x = read(HEAD + TAIL, 3);
        Due.is("house() again", x.house(), -1000100);
        Due.is("fault()", x.fault(), 1);
        Due.is("the house stays", x.count(5), 3);
        Due.is("one behind a fault", Due.read(x, "rail 99"), -1000105);
        Due.is("count(8)", x.count(8), 0);
        Due.is("what was is no part of it", Due.read(x, HEAD + TAIL), 3);
    }

    @Says("1 it cannot stand there, or is none (the end: how many bytes there are)")
    static void promise07_anEmptyTape() {
        fault("^", 1);
        fault(" ^", 1);
        fault(" \n \n^", 1);
    }

    @Says("how many VISITORS there are")
    static void promise07_1To30Visitors() {
        read(HEAD + PICTURE + "group 1 0 first 1;", 1);
        read(HEAD + PICTURE + SIX_GROUPS, 30);
    }

    // ---- promise 7: tokens

    @Says("NAMES (letters a to z)")
    static void promise07_lettersAToZ() {
        fault("^`ail 1 0;", 1);
        fault("^{ail 1 0;", 1);
        fault("^Rail 1 0;", 1);
        fault("^RAIL 1 0;", 1);
        fault("rail^` 1 0;", 1);
        fault("rail^{ 1 0;", 1);
        fault("rail^Z 1 0;", 1);
        fault("^raila 1 0;", 1);
        fault("^railz 1 0;", 1);
        fault("^arail 1 0;", 1);
        fault("^rai 1 0;", 1);
        fault("^ra il 1 0;", 1);
        fault("^tail 1 0;", 1);
        fault("^rain 1 0;", 1);
    }

    @Says("NUMBERS (figures, 3 at most)")
    static void promise07_figures0To9() {
        RailOfHeads x = read("rail 9 0;room 39;room 28;room 17;picture 0 46;group 5 0 first 1;", 5);
        Due.is("room(0,0)", x.room(0, 0), 39);
        Due.is("room(1,0)", x.room(1, 0), 28);
        Due.is("room(2,0)", x.room(2, 0), 17);
        fault("rail ^/ 0;", 1);
        fault("rail ^: 0;", 1);
        fault("rail 1^/ 0;", 1);
        fault("rail 1^: 0;", 1);
        fault("rail ^-1 0;", 1);
        fault("rail ^+1 0;", 1);
        fault("rail 1^.0 0;", 1);
    }

    @Says("NUMBERS (figures, 3 at most)")
    static void promise07_threeFiguresAtMost() {
        read("rail 001 000;room 002;room 003;door 000 001;picture 000 020;group 003 000 first 001;", 3);
        fault("rail ^0001 0;", 1);
        fault("rail 1 ^0000;", 1);
        fault("rail 1 0;room ^0002;", 1);
        fault(HEAD + "door ^0000 1;", 1);
        fault(HEAD + "door 0 ^0001;", 1);
        fault(HEAD + "picture 0 ^0020;", 1);
        fault(HEAD + PICTURE + "group ^0003 0 first 1;", 1);
        fault(HEAD + PICTURE + "group 3 0 first ^0001;", 1);
        fault("rail ^999 0;", 2);
        fault("rail ^1000 0;", 1);
        fault("rail ^99999999999999999999 0;", 1);
        fault("rail ^4294967297 0;", 1);
    }

    @Says("SIGNS ;")
    static void promise07_oneSignAlone() {
        fault("rail 1 0^:room 2;", 1);
        fault("rail 1 0^<room 2;", 1);
        fault("rail 1 0^,room 2;", 1);
        fault("rail 1 0^.room 2;", 1);
        fault("rail 1 0;^;room 2;", 1);
        fault("rail 1 0 ^room 2;", 1);
    }

    @Says("bytes 32 and 10 between")
    static void promise07_bytes32And10Between() {
        read(" \n rail\n1 0 ;\nroom 2\n;\n\nroom  3 ; picture 0\n20 ; group 3 0 first 1\n;\n ", 3);
        for (int b = 0; b < 256; b++) {
            RailOfHeads x = new RailOfHeads();
            boolean blank = b == 32 || b == 10;
            boolean figure = b >= '0' && b <= '9';
            int answer = Due.read(x, "rail 1" + (char) b + "0;room 2;" + TAIL);
            Due.is("house() with byte " + b + " between", answer, blank ? 3 : figure ? -1000105 : -1000106);
            Due.is("fault() with byte " + b + " between", x.fault(), blank ? 0 : figure ? 2 : 1);
        }
    }

    @Says("bytes 32 and 10 between")
    static void promise07_whatIsNotApartIsOne() {
        fault("rail 10^;room 2;", 1);
        fault("^railroom 1 0;", 1);
        fault(HEAD + "picture ^020;", 2);
        fault(HEAD + "door 0 1 ^oneone;", 1);
    }

    // ---- promise 7: what stands where

    @Says("text: rail room { room } { door } picture { picture } group { group }.")
    static void promise07_whatMustBeThere() {
        fault("^room 2;" + TAIL, 1);
        fault(RAIL + "^" + TAIL, 1);
        fault(HEAD + "^" + GROUP, 1);
        fault(HEAD + "door 0 1;^" + GROUP, 1);
        fault(HEAD + PICTURE + "^", 1);
        fault(HEAD + "^", 1);
        fault(HEAD + "door 0 1;^", 1);
        read(RAIL + "room 2;" + TAIL, 3);
        read(HEAD + "door 0 1;" + TAIL, 3);
    }

    @Says("text: rail room { room } { door } picture { picture } group { group }.")
    static void promise07_whatMayNotComeAgain() {
        fault(RAIL + "^" + RAIL, 1);
        fault(RAIL + "^door 0 1;", 1);
        fault(HEAD + "^" + RAIL, 1);
        fault(HEAD + "door 0 1;^room 1;", 1);
        fault(HEAD + PICTURE + "^room 1;", 1);
        fault(HEAD + PICTURE + "^door 0 1;", 1);
        fault(HEAD + TAIL + "^" + PICTURE, 1);
        fault(HEAD + TAIL + "^door 0 1;", 1);
        fault(HEAD + TAIL + "^room 1;", 1);
        fault(HEAD + TAIL + "^" + RAIL, 1);
        fault(HEAD + TAIL + "^;", 1);
        fault(HEAD + TAIL + "^0", 1);
        fault(HEAD + TAIL + "^x", 1);
        fault(HEAD + TAIL + " ^!", 1);
    }

    @Says("rail: 'rail' RAIL GUARD ';'")
    static void promise07_partsOfARail() {
        fault("rail ^;", 1);
        fault("rail 1^;", 1);
        fault("rail 1 0 ^0;", 1);
        fault("rail ^rail 0;", 1);
    }

    @Says("room: 'room' HOLDS ';'")
    static void promise07_partsOfARoom() {
        fault(RAIL + "room ^;", 1);
        fault(RAIL + "room 2 ^2;", 1);
        fault(RAIL + "room ^one;", 1);
        fault(RAIL + "room 2 ^one;", 1);
    }

    @Says("door: 'door' A B [ 'one' ] ';'")
    static void promise07_partsOfADoor() {
        fault(HEAD + "door ^;", 1);
        fault(HEAD + "door 0 ^;", 1);
        fault(HEAD + "door 0 1 ^0;", 1);
        fault(HEAD + "door 0 ^one 1;", 1);
        fault(HEAD + "door ^one 0 1;", 1);
        fault(HEAD + "door 0 1 ^on;", 1);
        fault(HEAD + "door 0 1 ^ones;", 1);
        fault(HEAD + "door 0 1 ^two;", 1);
        fault(HEAD + "door 0 1 one ^one;", 1);
        fault(HEAD + "door 0 1 one ^" + TAIL, 1);
        read(HEAD + "door 0 1 one;" + TAIL, 3);
    }

    @Says("picture: 'picture' ROOM DRAW ';'")
    static void promise07_partsOfAPicture() {
        fault(HEAD + "picture ^;", 1);
        fault(HEAD + "picture 0 ^;", 1);
        fault(HEAD + "picture 0 5 ^5;", 1);
        fault(HEAD + "picture 0 ^draw;", 1);
    }

    @Says("group: 'group' MANY MINUTE LAW PATIENCE ';'")
    static void promise07_partsOfAGroup() {
        fault(HEAD + PICTURE + "group ^;", 1);
        fault(HEAD + PICTURE + "group 1 ^;", 1);
        fault(HEAD + PICTURE + "group 1 ^first 0;", 1);
        fault(HEAD + PICTURE + "group 1 0 ^;", 1);
        fault(HEAD + PICTURE + "group 1 0 first ^;", 1);
        fault(HEAD + PICTURE + "group 1 0 first ^first;", 1);
        fault(HEAD + PICTURE + "group 1 0 first 1 ^1;", 1);
    }

    @Says("LAW: 'first' | 'draw' | 'round'")
    static void promise07_threeLaws() {
        for (String law : new String[] {"first", "draw", "round"}) {
            read(HEAD + PICTURE + "group 3 0 " + law + " 1;", 3);
        }
        for (String law : new String[] {"firs", "firsts", "draws", "dra", "roun", "rounds", "last", "one", "0", "1"}) {
            fault(HEAD + PICTURE + "group 3 0 ^" + law + " 1;", 1);
        }
    }

    // ---- promise 7: numbers as told

    @Says("(1 to 20 places; 0 to 20 minutes, 0: there is no guard)")
    static void promise07_rail1To20() {
        read("rail 1 0;room 2;" + TAIL, 3);
        read("rail 20 0;room 2;" + TAIL, 3);
        fault("rail ^0 0;", 2);
        fault("rail ^21 0;", 2);
        fault("rail ^000 0;", 2);
    }

    @Says("2 a NUMBER that is not as told")
    static void promise07_numbersOf3FiguresThatAreNotAsTold() {
        fault("rail ^100 0;", 2);
        fault("rail 1 ^100;", 2);
        fault(RAIL + "room ^100;", 2);
        fault(HEAD + "door ^100 0;", 2);
        fault(HEAD + "door 0 ^100;", 2);
        fault(HEAD + "picture ^100 1;", 2);
        fault(HEAD + "picture 0 ^100;", 2);
        fault(HEAD + PICTURE + "group ^100 0 draw 0;", 2);
        fault(HEAD + PICTURE + "group 1 ^100 draw 0;", 2);
        fault(HEAD + PICTURE + "group 1 0 draw ^100;", 2);
    }

    @Says("(1 to 20 places; 0 to 20 minutes, 0: there is no guard)")
    static void promise07_guard0To20() {
        read("rail 1 0;room 2;" + TAIL, 3);
        read("rail 1 20;room 2;" + TAIL, 3);
        fault("rail 1 ^21;", 2);
        fault("rail 1 ^999;", 2);
    }

    @Says("(1 to 40; ROOMS 0 .. 5, 6 at most; one comes in by ROOM 0)")
    static void promise07_holds1To40() {
        Due.is("room(0,0)", read(RAIL + "room 1;" + TAIL, 3).room(0, 0), 1);
        Due.is("room(0,0)", read(RAIL + "room 40;" + TAIL, 3).room(0, 0), 40);
        fault(RAIL + "room ^0;", 2);
        fault(RAIL + "room ^41;", 2);
        fault(HEAD + "room ^0;", 2);
        fault(HEAD + "room ^41;", 2);
    }

    @Says("(1 to 40; ROOMS 0 .. 5, 6 at most; one comes in by ROOM 0)")
    static void promise07_sixRoomsAtMost() {
        for (int rooms = 1; rooms <= 6; rooms++) {
            Due.is("count(1)", read(RAIL + "room 2;".repeat(rooms) + TAIL, 3).count(1), rooms);
        }
        fault(RAIL + SIX_ROOMS + "^room 2;" + TAIL, 3);
    }

    @Says("(ROOMS, unlike; one: from A to B alone; DOORS 0 .. 8, 9 at most)")
    static void promise07_doorsAreOfRooms() {
        read(HEAD + "door 0 1;door 1 0;" + TAIL, 3);
        read(RAIL + SIX_ROOMS + "door 0 5;door 5 0;" + TAIL, 3);
        fault(RAIL + "room 2;door ^1 0;", 2);
        fault(RAIL + "room 2;door 0 ^1;", 2);
        fault(HEAD + "door ^2 0;", 2);
        fault(HEAD + "door 0 ^2;", 2);
        fault(RAIL + SIX_ROOMS + "door ^6 0;", 2);
        fault(RAIL + SIX_ROOMS + "door 0 ^6;", 2);
        fault(HEAD + "door ^2 2;", 2);
    }

    @Says("(ROOMS, unlike; one: from A to B alone; DOORS 0 .. 8, 9 at most)")
    static void promise07_doorsAreOfUnlikeRooms() {
        fault(RAIL + "room 2;door 0 ^0;", 2);
        fault(HEAD + "door 1 ^1;", 2);
        fault(HEAD + "door 0 ^0 one;", 2);
        fault(HEAD + "door 0 1;door 1 ^001;", 2);
        read(HEAD + "door 0 1;door 0 1;door 1 0 one;" + TAIL, 3);
    }

    @Says("(ROOMS, unlike; one: from A to B alone; DOORS 0 .. 8, 9 at most)")
    static void promise07_nineDoorsAtMost() {
        for (int doors = 0; doors <= 9; doors++) {
            Due.is("count(2)", read(HEAD + "door 0 1;".repeat(doors) + TAIL, 3).count(2), doors);
        }
        fault(HEAD + NINE_DOORS + "^door 0 1;" + TAIL, 3);
    }

    @Says("(a ROOM; 1 to 60; PICTURES 0 .. 7, 8 at most)")
    static void promise07_picturesHangInRooms() {
        read(RAIL + SIX_ROOMS + "picture 5 20;" + GROUP, 3);
        fault(RAIL + "room 2;picture ^1 20;", 2);
        fault(HEAD + "picture ^2 20;", 2);
        fault(RAIL + SIX_ROOMS + "picture ^6 20;", 2);
    }

    @Says("(a ROOM; 1 to 60; PICTURES 0 .. 7, 8 at most)")
    static void promise07_draw1To60() {
        read(HEAD + "picture 0 1;" + GROUP, 3);
        read(HEAD + "picture 0 60;" + GROUP, 3);
        fault(HEAD + "picture 0 ^0;", 2);
        fault(HEAD + "picture 0 ^61;", 2);
    }

    @Says("(a ROOM; 1 to 60; PICTURES 0 .. 7, 8 at most)")
    static void promise07_eightPicturesAtMost() {
        for (int pictures = 1; pictures <= 8; pictures++) {
            Due.is("count(3)", read(HEAD + PICTURE.repeat(pictures) + GROUP, 3).count(3), pictures);
        }
        fault(HEAD + EIGHT_PICTURES + "^picture 0 1;" + GROUP, 3);
    }

    @Says("(1 to 20; 0 to 60; LAW: 'first' | 'draw' | 'round'; 0 to 20; GROUPS 0 .. 5, 6 at most, 30 VISITORS together, numbered by GROUPS)")
    static void promise07_many1To20() {
        read(HEAD + PICTURE + "group 1 0 draw 0;", 1);
        read(HEAD + PICTURE + "group 20 0 draw 0;", 20);
        fault(HEAD + PICTURE + "group ^0 0 draw 0;", 2);
        fault(HEAD + PICTURE + "group ^21 0 draw 0;", 2);
    }

    @Says("(1 to 20; 0 to 60; LAW: 'first' | 'draw' | 'round'; 0 to 20; GROUPS 0 .. 5, 6 at most, 30 VISITORS together, numbered by GROUPS)")
    static void promise07_minute0To60() {
        read(HEAD + PICTURE + "group 1 0 draw 0;", 1);
        read(HEAD + PICTURE + "group 1 60 draw 0;", 1);
        fault(HEAD + PICTURE + "group 1 ^61 draw 0;", 2);
    }

    @Says("(1 to 20; 0 to 60; LAW: 'first' | 'draw' | 'round'; 0 to 20; GROUPS 0 .. 5, 6 at most, 30 VISITORS together, numbered by GROUPS)")
    static void promise07_patience0To20() {
        Due.is("visitor(0,3)", read(HEAD + PICTURE + "group 1 0 draw 0;", 1).visitor(0, 3), 0);
        Due.is("visitor(0,3)", read(HEAD + PICTURE + "group 1 0 draw 20;", 1).visitor(0, 3), 20);
        fault(HEAD + PICTURE + "group 1 0 draw ^21;", 2);
    }

    @Says("GROUPS 0 .. 5, 6 at most")
    static void promise07_sixGroupsAtMost() {
        for (int groups = 1; groups <= 6; groups++) {
            Due.is("count(4)", read(HEAD + PICTURE + GROUP.repeat(groups), 3 * groups).count(4), groups);
        }
        fault(HEAD + PICTURE + GROUP.repeat(6) + "^" + GROUP, 3);
        fault(HEAD + PICTURE + SIX_GROUPS + "^group 1 0 first 0;", 3);
    }

    @Says("(MANY, too, by which there are more than 30)")
    static void promise07_thirtyVisitorsAtMost() {
        String twenty = "group 20 0 draw 0;";
        read(HEAD + PICTURE + twenty + "group 10 0 draw 0;", 30);
        read(HEAD + PICTURE + twenty + "group 9 0 draw 0;group 1 0 draw 0;", 30);
        fault(HEAD + PICTURE + twenty + "group ^11 0 draw 0;", 2);
        fault(HEAD + PICTURE + twenty + "group ^20 0 draw 0;", 2);
        fault(HEAD + PICTURE + twenty + "group 10 0 draw 0;group ^1 0 draw 0;", 2);
        fault(HEAD + PICTURE + twenty + "group 9 0 draw 0;group ^2 0 draw 0;", 2);
    }

    @Says("numbered by GROUPS")
    static void promise07_numberedByGroups() {
        RailOfHeads x = read(HEAD + PICTURE + "group 1 9 draw 3;group 20 0 first 4;group 9 1 round 5;", 30);
        int[] numbers = {0, 1, 20, 21, 29};
        int[] groups = {0, 1, 1, 2, 2};
        for (int i = 0; i < numbers.length; i++) {
            Due.is("visitor(" + numbers[i] + ",0)", x.visitor(numbers[i], 0), groups[i]);
            Due.is("visitor(" + numbers[i] + ",3)", x.visitor(numbers[i], 3), groups[i] + 3);
        }
        Due.is("visitor(30,0)", x.visitor(30, 0), BAD);
    }

    // ---- promise 7: a house in place of another

    @Says("A HOUSE that is read stands in place of the one before (none at first): minute 0, nobody in it.")
    static void promise07_inPlaceOfTheOneBefore() {
        RailOfHeads x = Scene.lived();
        x.house();
        Due.is("house()", Due.read(x, RAIL + "room 7;picture 0 60;group 1 0 draw 9;"), 1);
        int[] due = {4, 1, 0, 1, 1, 1, 0, 0, 0};
        for (int what = 0; what < 9; what++) {
            Due.is("count(" + what + ")", x.count(what), due[what]);
        }
        Due.is("room(0,0)", x.room(0, 0), 7);
        Due.is("room(0,1)", x.room(0, 1), 0);
        Due.is("room(1,0)", x.room(1, 0), BAD);
        Due.is("visitor(1,0)", x.visitor(1, 0), BAD);
        int[] visitor = {0, Due.NONE, 0, 9, 0, 0, 0, Due.NONE, 0};
        for (int what = 0; what < 9; what++) {
            Due.is("visitor(0," + what + ")", x.visitor(0, what), visitor[what]);
        }
        Due.is("kind(0)", x.kind(0), 5);
        Due.is("fire()", x.fire(), 0);
        Due.is("status() stays", x.status(), 5);
        Due.is("rail and guard are the new ones", x.seen(120, 0), 4800);
        Due.is("go(1)", x.go(1), 1);
        Due.is("visitor(0,1)", x.visitor(0, 1), 0);
    }

    @Says("A HOUSE that is read stands in place of the one before (none at first): minute 0, nobody in it.")
    static void promise07_theSameOnceMore() {
        RailOfHeads x = Due.house(HEAD + "door 0 1;" + TAIL);
        x.go(60);
        Due.is("all are out", x.count(7), 3);
        Due.is("house()", Due.read(x, HEAD + "door 0 1;" + TAIL), 3);
        Bounds.same("a house that is read again", Portrait.whole(x), Portrait.whole(Due.house(HEAD + "door 0 1;" + TAIL)));
    }

    // ---- promise 7: faults

    @Says("FAULTS, the first TOKEN that has one (its first byte)")
    static void promise07_theFirstTokenThatHasOne() {
        fault("rail ^0 21;room 0;", 2);
        fault("rail 1 ^x;room 0;", 1);
        fault("rail ^99 x;", 2);
        fault("rail 1 0;room ^41;room x;", 2);
        fault(HEAD + "door 0 ^0 on;", 2);
        fault(HEAD + "picture ^9 99;", 2);
        fault(HEAD + PICTURE + "group 1 ^99 last 99;", 2);
        fault(HEAD + PICTURE + "group 1 0 ^last 99;", 1);
        fault("  rail \n\n ^0 0;", 2);
    }

    @Says("of one TOKEN the least")
    static void promise07_ofOneTokenTheLeast() {
        fault("rail 1 0 ^99;", 1);
        fault("rail ^1234 0;", 1);
        fault("^999", 1);
        fault(RAIL + SIX_ROOMS + "door 0 1;^room 1;", 1);
        fault(HEAD + NINE_DOORS + PICTURE + "^door 0 1;", 1);
        fault(HEAD + EIGHT_PICTURES + GROUP + "^picture 0 1;", 1);
    }

    @Says("(the end: how many bytes there are)")
    static void promise07_aTextThatEndsTooSoon() {
        String text = "rail 1 0;room 2;room 3;door 0 1 one;picture 0 20;group 3 0 first 1;";
        int start = 0;
        for (int k = 0; k < text.length(); k++) {
            boolean inAName = k > 0 && Character.isLetter(text.charAt(k - 1)) && Character.isLetter(text.charAt(k));
            start = inAName ? start : k;
            RailOfHeads x = new RailOfHeads();
            String part = text.substring(0, k);
            Due.is("house() of " + part, Due.read(x, part), -1000100 - start);
            Due.is("fault() of " + part, x.fault(), 1);
            Due.is("house() of " + part + " and blanks", Due.read(x, part + " \n"), -1000100 - (inAName ? start : k + 2));
            Due.is("fault() of " + part + " and blanks", x.fault(), 1);
        }
    }

    @Says("(the end: how many bytes there are)")
    static void promise07_theEndOfAFullTape() {
        fault(" ".repeat(396) + "rail^", 1);
        fault(" ".repeat(397) + "^rai", 1);
        fault("rail" + " ".repeat(394) + "20^", 1);
        fault("rail" + " ".repeat(394) + "^99", 2);
        fault(" ".repeat(400) + "^", 1);
        fault(" ".repeat(399) + "^;", 1);
    }

    @Says("3 more of a sort than there is room for (its word)")
    static void promise07_itsWordWhateverComesBehind() {
        fault(RAIL + SIX_ROOMS + "^room", 3);
        fault(RAIL + SIX_ROOMS + "^room 0;", 3);
        fault(RAIL + SIX_ROOMS + "^room x;", 3);
        fault(HEAD + NINE_DOORS + "^door", 3);
        fault(HEAD + NINE_DOORS + "^door 7 7;", 3);
        fault(HEAD + EIGHT_PICTURES + "^picture", 3);
        fault(HEAD + EIGHT_PICTURES + "^picture 9 99;", 3);
        fault(HEAD + PICTURE + SIX_GROUPS + "^group", 3);
        fault(HEAD + PICTURE + SIX_GROUPS + "^group 31 99;", 3);
        fault(RAIL + SIX_ROOMS + "^rooms 2;", 1);
    }

    @Says("-1000100 less the place of a FAULT: all stays.")
    static void promise07_allStaysWithoutAHouse() {
        RailOfHeads x = Scene.bare();
        Due.is("house()", x.house(), -1000144);
        Due.is("house() again", Due.read(x, HEAD + "door 0 7;"), -1000130);
        Due.is("status()", x.status(), 5);
        Bounds.same("a fault without a house", Portrait.butTheTape(x), Portrait.butTheTape(Scene.bare()));
    }

    // ---- promise 8

    @Says("The number of the latest FAULT; 0 before one.")
    static void promise08_theLatestOne() {
        RailOfHeads x = new RailOfHeads();
        Due.is("fault()", x.fault(), 0);
        Due.is("house()", Due.read(x, HEAD + TAIL), 3);
        Due.is("fault() behind a house", x.fault(), 0);
        Due.read(x, RAIL + SIX_ROOMS + "room 2;");
        Due.is("fault()", x.fault(), 3);
        Due.read(x, "rail 0");
        Due.is("fault()", x.fault(), 2);
        Due.read(x, "rails");
        Due.is("fault()", x.fault(), 1);
        Due.read(x, "rail 99");
        Due.is("fault()", x.fault(), 2);
        Due.is("house()", Due.read(x, HEAD + TAIL), 3);
        Due.is("fault() stays the latest", x.fault(), 2);
        x.image(0);
        x.house();
        x.restore(0);
        Due.is("fault() is no part of an image", x.fault(), 1);
    }
}
