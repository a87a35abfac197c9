/** Objects that have been used: something of each kind stands in them, so that a loss would be seen. */
final class Scene {
    static final String REST_OF_TAPE = "2;";
    private static final String TAPE = "rail 2 3;room 4;picture 0 20;group 1 0 draw ";
    private static final String HOUSE = "rail 2 0;room 3;room 1;door 0 1;picture 1 60;picture 0 20;"
            + "group 3 0 first 1;group 2 2 draw 5;";

    private Scene() {
    }

    /** A house with some in it, an image, rows, a trace, half a text on the tape; status() is STORE's 5. */
    static RailOfHeads lived() {
        RailOfHeads x = new RailOfHeads();
        Due.read(x, "rail 0");
        Due.read(x, HOUSE);
        x.go(3);
        x.image(0);
        x.rule(1, 6);
        x.go(2);
        x.ask(2, 0);
        Due.feed(x, TAPE);
        makeRows(x);
        return x;
    }

    /** The same without a house; the fault is the one that was there ahead of it. */
    static RailOfHeads bare() {
        RailOfHeads x = new RailOfHeads();
        Due.read(x, "rail 0");
        Due.feed(x, TAPE);
        makeRows(x);
        return x;
    }

    /** ROW 0: 3 bytes, ROW 1: 2 shorts, ROW 2: no ints, ROW 3: 2 bytes; the others are missing. */
    private static void makeRows(RailOfHeads x) {
        x.row(0, 0, 3);
        x.set(0, 0, 5);
        x.set(0, 1, 99);
        x.row(1, 1, 2);
        x.set(1, 0, 99);
        x.row(2, 2, 0);
        x.row(3, 0, 2);
        x.set(3, 1, 99);
        x.copy(0, 0, 1, 0, 1);
        Due.is("status() of the scene", x.status(), 5);
    }
}
