/** Boundaries of promise 1: what a new object is, and for how many calls. */
final class NewBounds {
    private static final int NONE = Due.NONE, BAD = Due.BAD, STATE = Due.STATE;
    private static final String HOUSE = "rail 1 0;room 2;picture 0 20;group 3 0 first 1;";

    private NewBounds() {
    }

    @Says("No HOUSE.")
    static void promise01_noHouse() {
        RailOfHeads x = new RailOfHeads();
        for (int what = 1; what <= 7; what++) {
            Due.is("count(" + what + ")", x.count(what), 0);
        }
        Due.is("far(0,0)", x.far(0, 0), BAD);
        Due.is("go(1)", x.go(1), STATE);
        Due.is("rule(1,0)", x.rule(1, 0), STATE);
        Due.is("visitor(0,0)", x.visitor(0, 0), BAD);
        Due.is("room(0,0)", x.room(0, 0), BAD);
        Due.is("seen(1,0)", x.seen(1, 0), STATE);
        Due.is("bestRule(1,0,0)", x.bestRule(1, 0, 0), STATE);
        Due.is("tickets(0,1)", x.tickets(0, 1), BAD);
        Due.is("oneWay(0,1)", x.oneWay(0, 1), BAD);
        Due.is("picture(0,1,0)", x.picture(0, 1, 0), BAD);
        Due.is("hung(1,-1)", x.hung(1, -1), STATE);
        Due.is("fire()", x.fire(), STATE);
        Due.is("image(0)", x.image(0), STATE);
        Due.is("kind(0)", x.kind(0), BAD);
        Due.is("as(0,0)", x.as(0, 0), BAD);
        Due.is("ask(0,0)", x.ask(0, 0), BAD);
    }

    @Says("are missing (at first)")
    static void promise01_rowsAreMissing() {
        RailOfHeads x = new RailOfHeads();
        Due.is("count(0)", x.count(0), 0);
        for (int r = 0; r < 8; r++) {
            Due.is("set(" + r + ",0,0)", x.set(r, 0, 0), Due.NULL);
            Due.is("copy(" + r + ",0," + r + ",0,0)", x.copy(r, 0, r, 0, 0), Due.NULL);
            Due.is("drop(" + r + ")", x.drop(r), Due.NULL);
        }
    }

    @Says("0 before one")
    static void promise08_noFaultAtFirst() {
        Due.is("fault()", new RailOfHeads().fault(), 0);
    }

    @Says("none was kept")
    static void promise23_noImageAtFirst() {
        Due.is("restore(0)", new RailOfHeads().restore(0), STATE);
        Due.is("restore(1)", new RailOfHeads().restore(1), STATE);
    }

    @Says("Number i of THE TRACE; NONE.")
    static void promise27_theTraceIsEmptyAtFirst() {
        Due.is("trace(0)", new RailOfHeads().trace(0), NONE);
    }

    @Says("0: it had none, or there was none")
    static void promise29_noStatusAtFirst() {
        Due.is("status()", new RailOfHeads().status(), 0);
    }

    @Says("8 bytes on the tape")
    static void promise28_theTapeIsEmptyAtFirst() {
        RailOfHeads x = new RailOfHeads();
        Due.is("count(8)", x.count(8), 0);
        Due.is("house()", x.house(), -1000100);
    }

    @Says("An object is used for at most 512 calls after it has been made")
    static void promise01_the512thCallAnswers() {
        RailOfHeads x = new RailOfHeads();
        int calls = 0;
        for (int i = 0; i < HOUSE.length(); i++) {
            Due.is("call " + ++calls, x.feed(HOUSE.charAt(i), 1), i + 1);
        }
        Due.is("call " + ++calls, x.house(), 3);
        while (calls <= 509) {
            int n = calls % 60 + 1;
            int gone = x.count(6);
            calls += 2;
            Due.is("call " + calls, x.go(n), gone + n);
        }
        while (calls < 511) {
            Due.is("call " + ++calls, x.count(7), 3);
        }
        Due.is("the last call", x.visitor(0, 4), 800);
    }

    @Says("The number of the latest FAULT")
    static void promise08_objectsAreApart() {
        RailOfHeads x = Scene.lived();
        RailOfHeads y = new RailOfHeads();
        Due.is("fault() of one", x.fault(), 2);
        Due.is("fault() of the other", y.fault(), 0);
        Due.is("count(0) of the other", y.count(0), 0);
        Due.is("count(1) of the other", y.count(1), 0);
        Due.is("count(8) of the other", y.count(8), 0);
        Due.is("trace(0) of the other", y.trace(0), NONE);
        Due.is("restore(0) of the other", y.restore(0), STATE);
        Bounds.same("another object's calls", Portrait.whole(x), Portrait.whole(Scene.lived()));
    }
}
