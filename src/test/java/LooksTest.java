/** Promises 24 to 27 (kind, as, ask, trace), with 29 (status of as). */
public final class LooksTest {
    private static final int NONE = Due.NONE, BAD = Due.BAD;

    public static void main(String[] args) {
        clearAndOver();
        passingAndWaiting();
        gone();
        wrongNumbers();
        Due.end();
    }

    private static void looks(RailOfHeads x, int v, int kind, String alsoAs) {
        String at = "minute " + x.count(6) + ": ";
        Due.is(at + "kind(" + v + ")", x.kind(v), kind);
        for (int k = 0; k < 6; k++) {
            boolean isOne = alsoAs.indexOf('0' + k) >= 0;
            Due.is(at + "as(" + v + "," + k + ")", x.as(v, k), isOne ? v : Due.KIND);
            Due.is(at + "status()", x.status(), isOne ? 0 : 3);
        }
    }

    private static void asked(RailOfHeads x, int v, int what, int due, int... trace) {
        String at = "minute " + x.count(6) + ": ";
        Due.is(at + "ask(" + v + "," + what + ")", x.ask(v, what), due);
        for (int i = 0; i < 20; i++) {
            Due.is(at + "ask(" + v + "," + what + "), trace(" + i + ")", x.trace(i), i < trace.length ? trace[i] : NONE);
        }
    }

    private static void clearAndOver() {
        RailOfHeads x = Due.house("rail 1 0;room 2;picture 0 20;group 3 0 first 1;");
        Due.is("the trace at first", x.trace(0), NONE);
        x.go(3);
        looks(x, 0, 1, "01");
        asked(x, 0, 0, 400, 11, 10, 20);
        asked(x, 0, 1, 0, 20);
        looks(x, 1, 2, "02");
        asked(x, 1, 0, 160 - 1001, 12, 10, 24, 20);
        asked(x, 1, 1, 1001, 24, 20);
        x.go(2);
        Due.is("done with it, yet he looked in the latest minute", x.kind(0), 1);
        asked(x, 0, 0, 800, 11, 10, 20);
        x.go(1);
        looks(x, 1, 5, "05");
        asked(x, 1, 0, 320, 10);
        asked(x, 1, 1, 321, 23, 20, 10);
        x = Due.house("rail 2 0;room 9;picture 0 20;group 3 0 first 1;");
        x.go(2);
        asked(x, 1, 0, 201, 11, 10, 20);
        asked(x, 2, 0, 80 - 1002, 12, 10, 24, 20);
    }

    private static void passingAndWaiting() {
        RailOfHeads x = Due.house("rail 1 0;room 3;room 3;room 1;door 0 1;door 1 2;picture 0 9;picture 2 20;group 2 0 first 5;");
        x.go(1);
        looks(x, 1, 3, "03");
        asked(x, 1, 0, 0, 13, 10);
        asked(x, 1, 1, 1, 21, 20);
        x.go(4);
        looks(x, 0, 3, "03");
        asked(x, 0, 0, -180, 13, 10);
        asked(x, 0, 1, 200, 21, 20);
        looks(x, 1, 4, "034");
        asked(x, 1, 0, -72 - 100, 14, 13, 10);
        asked(x, 1, 1, 1 + 100 + 4, 22, 21, 20);
        x.go(1);
        asked(x, 1, 1, 1 + 100 + 3, 22, 21, 20);
        // he gives up a picture, but has waited in this minute
        x = Due.house("rail 1 0;room 3;room 1;door 0 1;picture 1 20;picture 0 1;group 2 0 first 0;");
        x.go(2);
        Due.is("missed", x.visitor(1, 6), 1);
        looks(x, 1, 4, "034");
        asked(x, 1, 1, 1, 22, 21, 20);
        x.go(1);
        looks(x, 1, 1, "01");
    }

    private static void gone() {
        RailOfHeads x = Due.house("rail 1 0;room 1;picture 0 20;group 2 0 first 1;group 1 2 first 0;");
        for (int v = 0; v < 3; v++) {
            looks(x, v, 5, "05");
            asked(x, v, 0, 0, 10);
            asked(x, v, 1, v, 23, 20, 10);
        }
        x.go(1);
        looks(x, 1, 4, "034");
        asked(x, 1, 0, -100, 14, 13, 10);
        asked(x, 1, 1, 1, 22, 21, 20);
        looks(x, 2, 5, "05");
        x.go(1);
        looks(x, 1, 5, "05");
        Due.is("out", x.visitor(1, 2), 1);
    }

    private static void wrongNumbers() {
        RailOfHeads x = Due.house("rail 1 0;room 2;picture 0 20;group 3 0 first 1;");
        x.ask(0, 1);
        x.as(0, 1);
        Due.is("kind", x.kind(3), BAD);
        Due.is("kind", x.kind(-1), BAD);
        Due.is("as", x.as(3, 0), BAD);
        Due.is("as", x.as(-1, 0), BAD);
        Due.is("as", x.as(0, 6), BAD);
        Due.is("as", x.as(0, -1), BAD);
        Due.is("status stays", x.status(), 3);
        Due.is("ask", x.ask(3, 0), BAD);
        Due.is("ask", x.ask(-1, 0), BAD);
        Due.is("ask", x.ask(0, 2), BAD);
        Due.is("ask", x.ask(0, -1), BAD);
        Due.is("the trace stays", x.trace(0), 23);
        Due.is("the trace stays", x.trace(2), 10);
        Due.is("trace", x.trace(-1), NONE);
        Due.is("trace", x.trace(Due.MOST), NONE);
        Due.is("trace", x.trace(Due.LEAST), NONE);
    }
}
