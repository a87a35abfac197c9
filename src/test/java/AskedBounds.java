import java.lang.reflect.Method;
import java.lang.reflect.Modifier;
import java.util.Arrays;
import java.util.Comparator;
import java.util.Random;

/** Boundaries of promises 24 to 29: kind, as, ask, trace, count, status. */
final class AskedBounds {
    private static final int NONE = Due.NONE, BAD = Due.BAD, STATE = Due.STATE, LEAST = Due.LEAST, MOST = Due.MOST;
    private static final int[] NO_VISITORS = {-1, 5, 30, LEAST, MOST};

    private AskedBounds() {
    }

    /** Visitors 0 .. 4 are GONE (to come), CLEAR, OVER, PASSING, WAITING; 1 has seen 600, 2 has seen 240. */
    private static RailOfHeads ofAllKinds() {
        RailOfHeads x = Due.house("rail 1 0;room 3;picture 0 60;group 1 9 draw 0;group 2 0 draw 0;group 2 1 draw 3;");
        x.go(2);
        return x;
    }

    // ---- promise 24

    @Says("The KIND of a VISITOR's LOOK, as told (1 to 5). BAD.")
    static void promise24_kinds1To5() {
        RailOfHeads x = ofAllKinds();
        for (int v = 0; v < 5; v++) {
            Due.is("kind(" + v + ")", x.kind(v), v == 0 ? 5 : v);
        }
    }

    @Says("The KIND of a VISITOR's LOOK, as told (1 to 5). BAD.")
    static void promise24_noSuchVisitor() {
        for (int v : NO_VISITORS) {
            Bounds.refused("kind(" + v + ")", BAD, x -> x.kind(v));
        }
        Bounds.refusedBare("kind(0) without a house", BAD, x -> x.kind(0));
        for (int v = 0; v < 5; v++) {
            int visitor = v;
            Bounds.changesNothing("kind(" + v + ")", 5, x -> x.kind(visitor));
        }
    }

    @Says("in the latest MINUTE he looked so")
    static void promise24_inTheLatestMinute() {
        RailOfHeads x = Due.house("rail 1 0;room 9;room 9;door 0 1;picture 0 1;picture 1 60;group 2 0 round 0;");
        int[] first = {5, 3, 1, 1, 3, 1}, second = {5, 3, 2, 2, 3, 2};
        for (int minute = 0; minute < first.length; minute++) {
            Due.is("kind(0) behind " + minute + " minutes", x.kind(0), first[minute]);
            Due.is("kind(1) behind " + minute + " minutes", x.kind(1), second[minute]);
            x.go(1);
        }
    }

    @Says("he WAITED in the latest MINUTE (to come, too), and is not OUT")
    static void promise24_waiting() {
        RailOfHeads x = Due.house("rail 1 0;room 1;picture 0 60;group 1 0 draw 0;group 1 0 draw 1;");
        x.go(1);
        Due.is("he has waited", x.kind(1), 4);
        x.go(1);
        Due.is("he has given up: OUT", x.kind(1), 5);
        x = Due.house("rail 1 0;room 9;room 1;door 0 1;picture 1 60;picture 0 1;group 2 0 first 0;");
        x.go(2);
        Due.is("he has waited and given up a picture", x.kind(1), 4);
        x.go(1);
        Due.is("he looks", x.kind(1), 1);
    }

    @Says("OUT, or to come, not having WAITED")
    static void promise24_gone() {
        RailOfHeads x = Due.house("rail 1 0;room 1;picture 0 1;group 1 2 draw 0;");
        int[] due = {5, 5, 5, 3, 1, 1, 5, 5};
        for (int minute = 0; minute < due.length; minute++) {
            Due.is("kind(0) behind " + minute + " minutes", x.kind(0), due[minute]);
            x.go(1);
        }
    }

    @Says("3 PASSING, a LOOK: he is in a ROOM, and neither")
    static void promise24_passing() {
        RailOfHeads x = Due.house("rail 1 0;room 9;room 9;door 0 1;picture 1 1;group 1 0 draw 0;");
        int[] due = {5, 3, 3, 1, 1, 5};
        for (int minute = 0; minute < due.length; minute++) {
            Due.is("kind(0) behind " + minute + " minutes", x.kind(0), due[minute]);
            x.go(1);
        }
    }

    // ---- promise 25

    @Says("It is taken as one of a KIND (0 .. 5): his number. BAD; KIND: it is no such one.")
    static void promise25_kinds0To5() {
        String[] kinds = {"05", "01", "02", "03", "034"};
        RailOfHeads x = ofAllKinds();
        for (int v = 0; v < 5; v++) {
            for (int kind = 0; kind < 6; kind++) {
                boolean isOne = kinds[v].indexOf('0' + kind) >= 0;
                Due.is("as(" + v + "," + kind + ")", x.as(v, kind), isOne ? v : Due.KIND);
                Due.is("status()", x.status(), isOne ? 0 : 3);
            }
        }
        for (int kind : new int[] {-1, 6, LEAST, MOST}) {
            Bounds.refused("as(0," + kind + ")", BAD, y -> y.as(0, kind));
        }
    }

    @Says("It is taken as one of a KIND (0 .. 5): his number. BAD; KIND: it is no such one.")
    static void promise25_noSuchVisitor() {
        for (int v : NO_VISITORS) {
            Bounds.refused("as(" + v + ",0)", BAD, x -> x.as(v, 0));
            Bounds.refused("as(" + v + ",4)", BAD, x -> x.as(v, 4));
        }
        Bounds.refusedBare("as(0,0) without a house", BAD, x -> x.as(0, 0));
    }

    @Says("3 KIND (a LOOK that is not that)")
    static void promise25_whatIsFoundChangesNothing() {
        RailOfHeads x = Scene.lived();
        for (int v = 0; v < 5; v++) {
            int visitor = v;
            int other = x.kind(v) == 5 ? 1 : 5;
            Bounds.refused("as(" + v + "," + other + ")", Due.KIND, y -> y.as(visitor, other));
            Bounds.changesNothing("as(" + v + ",0)", 0, y -> y.as(visitor, 0));
        }
    }

    // ---- promise 26

    @Says("An ASK (0, 1) of it. BAD.")
    static void promise26_asks0And1() {
        for (int what : new int[] {-1, 2, LEAST, MOST}) {
            Bounds.refused("ask(0," + what + ")", BAD, x -> x.ask(0, what));
        }
        for (int v : NO_VISITORS) {
            Bounds.refused("ask(" + v + ",0)", BAD, x -> x.ask(v, 0));
            Bounds.refused("ask(" + v + ",1)", BAD, x -> x.ask(v, 1));
        }
        Bounds.refusedBare("ask(0,0) without a house", BAD, x -> x.ask(0, 0));
    }

    @Says("each of which leaves its number in THE TRACE as it begins (the first 16)")
    static void promise26_whatIsLeftInTheTrace() {
        RailOfHeads x = ofAllKinds();
        int[] sizes = {0, 600 + 1, 240 - 1002, 0, -100}, marks = {0, 1, 1002, 3, 4 + 2};
        int[][] ofSize = {{10}, {11, 10, 20}, {12, 10, 24, 20}, {13, 10}, {14, 13, 10}};
        int[][] ofMark = {{23, 20, 10}, {20}, {24, 20}, {21, 20}, {22, 21, 20}};
        for (int v = 0; v < 5; v++) {
            Due.is("ask(" + v + ",0)", x.ask(v, 0), sizes[v]);
            traced(x, ofSize[v]);
            Due.is("ask(" + v + ",1)", x.ask(v, 1), marks[v]);
            traced(x, ofMark[v]);
        }
    }

    /** None leaves more than four, so nothing stands from there on up to the sixteenth and beyond. */
    private static void traced(RailOfHeads x, int... due) {
        for (int i = 0; i < 18; i++) {
            Due.is("trace(" + i + ")", x.trace(i), i < due.length ? due[i] : NONE);
        }
    }

    @Says("else that of the nearest KIND that it is, too, else the one that is lent; SIZE, MARK within others are asked of the same LOOK anew")
    static void promise26_theBodyThatIsLent() {
        RailOfHeads x = ofAllKinds();
        Due.is("SIZE of a GONE one", x.ask(0, 0), 0);
        traced(x, 10);
        Due.is("MARK of a CLEAR one", x.ask(1, 1), 1);
        traced(x, 20);
        Due.is("MARK within SIZE, of an OVER one", x.ask(2, 0), 240 - (2 + 1000));
        traced(x, 12, 10, 24, 20);
        Due.is("SIZE within MARK, of a GONE one", x.ask(0, 1), 0);
        traced(x, 23, 20, 10);
    }

    @Says("THE TRACE is empty ahead of it.")
    static void promise26_theTraceIsEmptyAheadOfIt() {
        RailOfHeads x = ofAllKinds();
        x.ask(2, 0);
        traced(x, 12, 10, 24, 20);
        x.ask(0, 0);
        traced(x, 10);
        x.ask(9, 0);
        traced(x, 10);
        x.ask(0, 2);
        traced(x, 10);
        x.go(1);
        traced(x, 10);
    }

    @Says("21 of PASSING ones: what 20 gives, and 100 times his ROOM (0: to come)")
    static void promise26_markOfOneInARoomOrToCome() {
        RailOfHeads x = Due.house("rail 9 0;" + "room 1;".repeat(6) + "door 0 5;picture 5 60;group 2 0 draw 20;");
        x.go(1);
        Due.is("in room 0", x.ask(0, 1), 0);
        Due.is("to come, having waited", x.ask(1, 1), 1 + 0 + 19);
        x.go(1);
        Due.is("in room 5", x.ask(0, 1), 500);
        x.go(1);
        Due.is("in room 0, having waited", x.ask(1, 1), 1 + 0 + 18);
    }

    @Says("23 of GONE ones: what 20 gives, and SIZE")
    static void promise26_markOfOneWhoIsOut() {
        RailOfHeads x = Due.house("rail 9 0;room 9;picture 0 1;group 3 0 draw 0;");
        x.go(4);
        Due.is("kind(2)", x.kind(2), 5);
        Due.is("ask(2,0)", x.ask(2, 0), 20);
        traced(x, 10);
        Due.is("ask(2,1)", x.ask(2, 1), 22);
        traced(x, 23, 20, 10);
    }

    @Says("13 of PASSING ones: 0 less what 10 gives. 14 of WAITING ones: what 13 gives, less 100.")
    static void promise26_sizeOfOneWhoHasSeen() {
        RailOfHeads x = Due.house("rail 9 0;room 9;room 1;door 0 1;picture 0 1;picture 1 60;group 2 0 round 9;");
        x.go(4);
        Due.is("kind(0)", x.kind(0), 3);
        Due.is("ask(0,0)", x.ask(0, 0), -20);
        Due.is("kind(1)", x.kind(1), 4);
        Due.is("ask(1,0)", x.ask(1, 0), -120);
    }

    @Says("22 of WAITING ones: what 21 gives, and PATIENCE")
    static void promise26_markOfOneWithoutPatience() {
        RailOfHeads x = Due.house("rail 9 0;room 1;room 1;door 1 0;picture 1 60;group 2 0 draw 2;");
        // he waits to come, comes in, waits before room 1 with his last patience, gives up
        int[] kinds = {4, 3, 4, 4}, due = {1 + 1, 1, 1, 1};
        for (int minute = 0; minute < due.length; minute++) {
            x.go(1);
            Due.is("kind(1) behind minute " + minute, x.kind(1), kinds[minute]);
            Due.is("ask(1,1) behind minute " + minute, x.ask(1, 1), due[minute]);
        }
    }

    // ---- promise 27

    @Says("Number i of THE TRACE; NONE.")
    static void promise27_noSuchNumber() {
        RailOfHeads x = Scene.lived();
        traced(x, 12, 10, 24, 20);
        for (int i : new int[] {-1, 4, 15, 16, 17, LEAST, MOST}) {
            Bounds.refused("trace(" + i + ")", NONE, y -> y.trace(i));
        }
        Bounds.refusedBare("trace(0) ahead of an ask", NONE, y -> y.trace(0));
    }

    // ---- promise 28

    @Says("8 bytes on the tape. BAD.")
    static void promise28_what0To8() {
        int[] due = {4, 2, 1, 2, 2, 5, 5, 0, 44};
        RailOfHeads x = Scene.lived();
        for (int what = 0; what < 9; what++) {
            Due.is("count(" + what + ")", x.count(what), due[what]);
        }
        for (int what : new int[] {-1, 9, LEAST, MOST}) {
            Bounds.refused("count(" + what + ")", BAD, y -> y.count(what));
            Bounds.refusedBare("count(" + what + ") without a house", BAD, y -> y.count(what));
        }
    }

    @Says("How many: 0 ROWS, 1 ROOMS, 2 DOORS, 3 PICTURES, 4 GROUPS, 5 VISITORS, 6 MINUTES gone, 7 OUT, 8 bytes on the tape.")
    static void promise28_theMostOfEach() {
        RailOfHeads x = Due.house("rail 1 0;" + "room 1;".repeat(6) + "door 0 1;".repeat(9) + "picture 0 1;".repeat(8)
                + "group 5 0 draw 0;".repeat(6));
        for (int r = 0; r < 8; r++) {
            x.row(r, 0, 0);
        }
        Due.feed(x, " ".repeat(400));
        x.go(60);
        int[] due = {8, 6, 9, 8, 6, 30, 60, 30, 400};
        for (int what = 0; what < 9; what++) {
            Due.is("count(" + what + ")", x.count(what), due[what]);
        }
    }

    @Says("7 OUT")
    static void promise28_out() {
        RailOfHeads x = Due.house("rail 1 0;room 1;picture 0 1;group 1 0 draw 0;group 2 1 draw 0;group 1 60 draw 0;");
        int[] due = {0, 0, 2, 2, 3, 3};
        for (int minute = 0; minute < due.length; minute++) {
            Due.is("count(7) behind " + minute + " minutes", x.count(7), due[minute]);
            x.go(1);
        }
    }

    // ---- promise 29

    @Says("Of the latest call with a ROW, or as(), that was not BAD, STATE, FULL: the number of its FINDING")
    static void promise29_eachFinding() {
        RailOfHeads x = Scene.lived();
        x.set(4, 0, 0);
        Due.is("NULL", x.status(), 1);
        x.set(0, 3, 0);
        Due.is("PLACE", x.status(), 2);
        x.as(0, x.kind(0) == 5 ? 1 : 5);
        Due.is("KIND", x.status(), 3);
        x.row(0, 0, -1);
        Due.is("SIZE", x.status(), 4);
        x.copy(0, 0, 1, 0, 1);
        Due.is("STORE", x.status(), 5);
        x.drop(4);
        Due.is("NULL of drop", x.status(), 1);
        x.counts(0, 0, 3, 1);
        Due.is("PLACE of counts", x.status(), 2);
        Due.is("asking for it leaves it", x.status(), 2);
    }

    @Says("0: it had none")
    static void promise29_noneBehindACallThatHadNone() {
        RailOfHeads x = Scene.lived();
        Due.is("row", clean(x, x.row(5, 0, 1)), 0);
        Due.is("set", clean(x, x.set(0, 0, 1)), 0);
        Due.is("copy", clean(x, x.copy(0, 0, 3, 0, 0)), 0);
        Due.is("counts", clean(x, x.counts(0, 0, 0, 1)), 0);
        Due.is("as", clean(x, x.as(0, 0)), 0);
        Due.is("drop", clean(x, x.drop(0)), 0);
    }

    /** status() as it is, and SIZE's 4 for the next. */
    private static int clean(RailOfHeads x, int answer) {
        Due.holds("answered, not " + answer, answer >= 0);
        int status = x.status();
        x.row(7, 0, -1);
        Due.is("status() of SIZE", x.status(), 4);
        return status;
    }

    @Says("that was not BAD, STATE, FULL")
    static void promise29_refusalsLeaveIt() {
        RailOfHeads x = Scene.lived();
        x.row(7, 0, -1);
        int[] answers = {x.row(8, 0, 1), x.row(0, 3, 1), x.row(0, 0, 41), x.set(8, 0, 0), x.copy(8, 0, 0, 0, 1), x.drop(8),
            x.counts(9, 0, 0, 1), x.counts(0, 0, 0, 0), x.counts(0, 0, 1, 1), x.as(9, 0), x.as(0, 6)};
        for (int i = 0; i < answers.length; i++) {
            Due.is("refusal " + i, answers[i], BAD);
        }
        Due.is("status()", x.status(), 4);
    }

    @Says("What is refused, or found, changes nothing but status().")
    static void promise29_whateverIsRefusedChangesNothing() throws ReflectiveOperationException {
        Random random = new Random(29);
        Method[] calls = Arrays.stream(RailOfHeads.class.getDeclaredMethods())
                .filter(m -> Modifier.isPublic(m.getModifiers()) && m.getParameterCount() > 0).toArray(Method[]::new);
        Arrays.sort(calls, Comparator.comparing(Method::getName));
        int refused = 0;
        for (int i = 0; i < 4000; i++) {
            Method call = calls[i % calls.length];
            Object[] with = anyNumbers(call, random);
            boolean bare = random.nextInt(3) == 0;
            RailOfHeads x = bare ? Scene.bare() : Scene.lived();
            int answer = (Integer) call.invoke(x, with);
            if (answer <= NONE && answer >= Due.STORE) {
                refused++;
                String name = call.getName() + Arrays.toString(with);
                int status = answer < -1000010 ? -1000010 - answer : 5;
                Due.is("status() behind " + name, x.status(), status);
                Bounds.same(name, Portrait.whole(x), Portrait.whole(bare ? Scene.bare() : Scene.lived()));
            }
        }
        Due.holds("enough was refused: " + refused, refused > 1000);
    }

    private static Object[] anyNumbers(Method call, Random random) {
        int[] edges = {LEAST, -2, -1, 0, 1, 2, 3, 4, 5, 6, 7, 8, 9, 20, 21, 30, 40, 41, 60, 61, 120, 121, MOST};
        Object[] with = new Object[call.getParameterCount()];
        for (int k = 0; k < with.length; k++) {
            int number = random.nextBoolean() ? random.nextInt(4) : edges[random.nextInt(edges.length)];
            with[k] = call.getParameterTypes()[k] == long.class ? (Object) (long) number : (Object) number;
        }
        return with;
    }

    @Says("Of the latest call with a ROW, or as()")
    static void promise29_otherCallsLeaveIt() {
        RailOfHeads x = Scene.lived();
        x.row(7, 0, -1);
        int sum = x.feed(0, 1) + x.house() + x.fault() + x.far(0, 0) + x.go(1) + x.rule(1, 0) + x.visitor(0, 0) + x.room(0, 0);
        sum += x.seen(1, 0) + x.bestRule(1, 0, 0) + x.tickets(0, 1) + x.oneWay(0, 1) + x.picture(0, 1, 0) + x.hung(1, 0);
        sum += x.fire() + x.image(1) + x.restore(1) + x.kind(0) + x.ask(0, 0) + x.trace(0) + x.count(0) + x.go(0) + x.feed(0, 9);
        Due.is("status() (" + sum + ")", x.status(), 4);
        Due.is("a house that is read leaves it, too", Due.read(x, "rail 1 0;room 2;picture 0 20;group 3 0 first 1;"), 3);
        Due.is("status()", x.status(), 4);
        RailOfHeads bare = new RailOfHeads();
        bare.row(7, 0, -1);
        Due.is("STATE", bare.go(1), STATE);
        Due.is("STATE", bare.restore(0), STATE);
        Due.is("status()", bare.status(), 4);
    }
}
