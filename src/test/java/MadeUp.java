import java.util.List;
import java.util.Random;

/** Texts that are made up: houses that can be read, and the same with slips in them. */
final class MadeUp {
    private static final List<String> LAWS = List.of("first", "draw", "round");
    private static final String[] TOKENS = {"rail", "room", "door", "picture", "group", "one", "first", "draw", "round",
        "on", "roomy", ";", "0", "1", "2", "5", "6", "9", "10", "20", "21", "30", "31", "40", "41", "60", "61", "007",
        "999", "1000"};
    private static final String BYTES = " \n;az09`{/:A\t\r\u0000\u007f\u00a0\u00ff";

    private final Random random;

    MadeUp(Random random) {
        this.random = random;
    }

    int below(int n) {
        return random.nextInt(n);
    }

    /** One of 400 bytes at most that has no fault. */
    String house() {
        String text = anyHouse();
        for (int i = 0; i < 100 && text.length() > 400; i++) {
            text = anyHouse();
        }
        return text;
    }

    private String anyHouse() {
        boolean tight = below(2) == 0;
        StringBuilder text = new StringBuilder();
        int guard = below(3) == 0 ? 0 : below(tight ? 6 : 21);
        tell(text, "rail", 1 + below(tight ? 3 : 20), guard);
        int rooms = 1 + below(6), doors = rooms == 1 ? 0 : below(10), pictures = 1 + below(8), groups = 1 + below(6);
        for (int i = 0; i < rooms; i++) {
            tell(text, "room", 1 + below(tight ? 4 : 40));
        }
        for (int i = 0; i < doors; i++) {
            int a = below(rooms), b = (a + 1 + below(rooms - 1)) % rooms;
            tell(text, "door", below(3) == 0 ? new Object[] {a, b, "one"} : new Object[] {a, b});
        }
        for (int i = 0; i < pictures; i++) {
            tell(text, "picture", below(rooms), 1 + below(below(3) == 0 ? 60 : 20));
        }
        int left = 30;
        for (int i = 0; i < groups && left > 0; i++) {
            int many = 1 + below(Math.min(left, below(2) == 0 ? 20 : 5));
            left -= many;
            tell(text, "group", many, below(below(4) == 0 ? 61 : 12), LAWS.get(below(3)), below(tight ? 5 : 21));
        }
        return text.toString();
    }

    private static void tell(StringBuilder text, String sort, Object... parts) {
        text.append(sort);
        for (Object part : parts) {
            text.append(' ').append(part);
        }
        text.append(';');
    }

    /** A house with up to 3 slips: a byte or a token gone, put in, or another; lines told again; an end too soon. */
    String houseWithSlips() {
        StringBuilder text = new StringBuilder(house());
        for (int slips = below(4); slips > 0; slips--) {
            slip(text);
        }
        text.setLength(Math.min(400, text.length()));
        return text.toString();
    }

    private void slip(StringBuilder text) {
        int at = below(text.length() + 1), end = Math.min(text.length(), at + below(3));
        switch (below(6)) {
            case 0:
                text.replace(at, end, "");
                break;
            case 1:
                text.replace(at, end, String.valueOf(BYTES.charAt(below(BYTES.length()))));
                break;
            case 2:
            case 3:
                replaceToken(text, at);
                break;
            case 4:
                tellAgain(text, at);
                break;
            default:
                text.setLength(below(3) == 0 ? at : text.length());
        }
    }

    private void replaceToken(StringBuilder text, int at) {
        int from = at, to = at;
        while (from > 0 && Character.isLetterOrDigit(text.charAt(from - 1))) {
            from--;
        }
        while (to < text.length() && Character.isLetterOrDigit(text.charAt(to))) {
            to++;
        }
        text.replace(from, to, TOKENS[below(TOKENS.length)]);
    }

    /** The line at this place comes some times more, so that there are more of its sort than there is room for. */
    private void tellAgain(StringBuilder text, int at) {
        int from = text.lastIndexOf(";", at - 1) + 1, end = text.indexOf(";", at) + 1;
        if (end > from) {
            text.insert(from, text.substring(from, end).repeat(1 + below(9)));
        }
    }
}
