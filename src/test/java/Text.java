import java.util.ArrayList;
import java.util.List;
import java.util.regex.Matcher;
import java.util.regex.Pattern;

/**
 * TEXTS and FAULTS told once more: a text is cut into TOKENS first, all of it, and then read by what may stand
 * where. Twin holds the class against it.
 */
final class Text {
    /** What is wrong with a text. */
    static final class Fault extends Exception {
        private static final long serialVersionUID = 1;
        final int place, number;

        Fault(int place, int number) {
            this.place = place;
            this.number = number;
        }
    }

    private record Token(int place, String word) {
    }

    private static final Pattern TOKEN = Pattern.compile("[ \\n]+|([a-z]+|[0-9]+|.)", Pattern.DOTALL);
    private static final List<String> LAWS = List.of("first", "draw", "round");

    private final List<Token> left = new ArrayList<>();
    private final Model.Told told = new Model.Told();

    private Text(String text) {
        Matcher m = TOKEN.matcher(text);
        while (m.find()) {
            if (m.group(1) != null) {
                left.add(new Token(m.start(), m.group(1)));
            }
        }
        left.add(new Token(text.length(), ""));
    }

    /** Characters of the text are bytes 0 to 255. */
    static Model.Told read(String text) throws Fault {
        Text t = new Text(text);
        t.readRail();
        for (int i = 0; t.another("room", i, 1, 6); i++) {
            t.told.holds.add(t.number(1, 40));
            t.word(";");
        }
        for (int i = 0; t.another("door", i, 0, 9); i++) {
            t.readDoor();
        }
        for (int i = 0; t.another("picture", i, 1, 8); i++) {
            int room = t.number(0, t.told.holds.size() - 1), draw = t.number(1, 60);
            t.told.pictures.add(new Model.Picture(room, draw, 2 + draw / 10));
            t.word(";");
        }
        for (int i = 0; t.another("group", i, 1, 6); i++) {
            t.readGroup();
        }
        t.word("");
        return t.told;
    }

    private void readRail() throws Fault {
        word("rail");
        told.rail = number(1, 20);
        told.guard = number(0, 20);
        word(";");
    }

    private void readDoor() throws Fault {
        int a = number(0, told.holds.size() - 1);
        Token second = left.get(0);
        int b = number(0, told.holds.size() - 1);
        if (a == b) {
            throw new Fault(second.place, 2);
        }
        boolean one = left.get(0).word.equals("one");
        if (one) {
            left.remove(0);
        }
        told.doors.add(new Model.Door(a, b, one));
        word(";");
    }

    private void readGroup() throws Fault {
        int before = told.groups.stream().mapToInt(Model.Group::many).sum();
        int many = number(1, Math.min(20, 30 - before)), minute = number(0, 60);
        Token law = left.get(0);
        if (!LAWS.contains(law.word)) {
            throw new Fault(law.place, 1);
        }
        left.remove(0);
        told.groups.add(new Model.Group(many, minute, law.word, number(0, 20)));
        word(";");
    }

    /** Whether one more of a sort begins here. */
    private boolean another(String sort, int have, int least, int most) throws Fault {
        Token t = left.get(0);
        if (have >= least && !t.word.equals(sort)) {
            return false;
        }
        if (have == most) {
            throw new Fault(t.place, 3);
        }
        word(sort);
        return true;
    }

    private void word(String due) throws Fault {
        Token t = left.remove(0);
        if (!t.word.equals(due)) {
            throw new Fault(t.place, 1);
        }
    }

    private int number(int least, int most) throws Fault {
        Token t = left.remove(0);
        if (!t.word.matches("[0-9]{1,3}")) {
            throw new Fault(t.place, 1);
        }
        int n = Integer.parseInt(t.word);
        if (n < least || n > most) {
            throw new Fault(t.place, 2);
        }
        return n;
    }
}
