/** What the tests share: feeding a text, comparing an answer with the one that is due. */
final class Due {
    static final int NONE = -1000000, BAD = -1000001, STATE = -1000002, FULL = -1000003;
    static final int NULL = -1000011, PLACE = -1000012, KIND = -1000013, SIZE = -1000014, STORE = -1000015;
    static final int LEAST = Integer.MIN_VALUE, MOST = Integer.MAX_VALUE;

    private static int wrong = 0;
    private static String test = "";

    private Due() {
    }

    /** Names the test that what follows belongs to. */
    static void within(String name) {
        test = name.isEmpty() ? "" : name + ": ";
    }

    static void is(String call, long got, long due) {
        if (got != due) {
            wrong++;
            if (wrong <= 50) {
                System.out.println(test + call + " answered " + got + ", due is " + due);
            }
        }
    }

    static void holds(String what, boolean so) {
        is(what, so ? 1 : 0, 1);
    }

    static void end() {
        if (wrong != 0) {
            System.out.println(wrong + " answers are not as due");
            System.exit(1);
        }
    }

    static void feed(RailOfHeads x, String text) {
        for (int i = 0; i < text.length(); i += 8) {
            String part = text.substring(i, Math.min(text.length(), i + 8));
            long w = 0;
            for (char c : part.toCharArray()) {
                w = w << 8 | c & 255;
            }
            x.feed(w, part.length());
        }
    }

    static int read(RailOfHeads x, String text) {
        feed(x, text);
        return x.house();
    }

    static RailOfHeads house(String text) {
        RailOfHeads x = new RailOfHeads();
        int visitors = read(x, text);
        holds("house() of " + text + " gave " + visitors, visitors > 0);
        return x;
    }
}
