import java.util.List;
import java.util.function.Supplier;
import java.util.function.ToIntFunction;

/** What the tests of boundaries share: calls that must change nothing, held against a twin without them. */
final class Bounds {
    private Bounds() {
    }

    /** In a house that has been used. */
    static void refused(String name, int due, ToIntFunction<RailOfHeads> call) {
        refusedIn(Scene::lived, name, due, call);
    }

    /** Where there is no house. */
    static void refusedBare(String name, int due, ToIntFunction<RailOfHeads> call) {
        refusedIn(Scene::bare, name, due, call);
    }

    /** BAD, STATE, FULL leave status() as it was, a FINDING leaves its number there; all else stays. */
    static void refusedIn(Supplier<RailOfHeads> make, String name, int due, ToIntFunction<RailOfHeads> call) {
        RailOfHeads x = make.get();
        RailOfHeads twin = make.get();
        if (due == Due.STORE) {
            x.row(7, 0, -1);
        }
        int status = due < -1000010 ? -1000010 - due : x.status();
        Due.is(name, call.applyAsInt(x), due);
        Due.is("status() behind " + name, x.status(), status);
        same(name, Portrait.whole(x), Portrait.whole(twin));
    }

    /** A call that answers, in a house that has been used, and leaves all as it was but for status(). */
    static void changesNothing(String name, int status, ToIntFunction<RailOfHeads> call) {
        RailOfHeads x = Scene.lived();
        RailOfHeads twin = Scene.lived();
        int answer = call.applyAsInt(x);
        Due.holds(name + " is answered, not " + answer, answer > Due.NONE);
        Due.is("status() behind " + name, x.status(), status);
        same(name, Portrait.whole(x), Portrait.whole(twin));
    }

    static void same(String behind, List<String> got, List<String> due) {
        Due.is("lines behind " + behind, got.size(), due.size());
        for (int i = 0; i < Math.min(got.size(), due.size()); i++) {
            boolean so = got.get(i).equals(due.get(i));
            Due.holds("behind " + behind + ": " + got.get(i) + ", due is: " + due.get(i), so);
        }
    }
}
