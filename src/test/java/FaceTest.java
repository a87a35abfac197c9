import java.lang.management.ManagementFactory;
import java.lang.reflect.Member;
import java.lang.reflect.Method;
import java.lang.reflect.Modifier;
import java.util.Arrays;
import java.util.Random;
import java.util.TreeSet;

/** The public face is the document's; no call throws, whatever it is given; no call makes an object. */
public final class FaceTest {
    private static final String FACE = "row(int,int,int) set(int,int,int) copy(int,int,int,int,int) drop(int) feed(long,int)"
            + " house() fault() far(int,int) go(int) rule(int,int) visitor(int,int) room(int,int) seen(int,int)"
            + " bestRule(int,int,int) tickets(int,int) oneWay(int,int) picture(int,int,int) hung(int,int) fire()"
            + " counts(int,int,int,int) image(int) restore(int) kind(int) as(int,int) ask(int,int) trace(int) count(int)"
            + " status()";
    private static final String[] TEXTS = {
        "rail 1 2;room 2;room 1;room 3;door 0 1;door 1 2 one;picture 1 20;picture 2 60;picture 0 3;group 9 0 first 1;group 9 2 draw 3;",
        "rail 3 0;room 9;picture 0 60;group 20 0 round 0;",
        "rail 1 2;room 2;door 0 0;",
        "rail 1 0;room 40;room 9;room 9;room 9;room 9;room 9;" + "door 0 5;door 5 4;door 4 3;".repeat(3) + "picture 5 60;".repeat(8)
            + "group 5 0 draw 0;".repeat(6),
        "rail 2 0;room 4;room 1;door 0 1;picture 1 60;picture 0 9;picture 1 5;picture 0 1;picture 0 7;group 5 9 draw 20;"};

    public static void main(String[] args) throws ReflectiveOperationException {
        faceIsTheDocuments();
        constantsAreTheDocuments();
        for (int seed = 0; seed < 40; seed++) {
            anyCallsAnswer(new Random(seed));
        }
        callsMakeNothing();
        Due.end();
    }

    private static void faceIsTheDocuments() {
        TreeSet<String> methods = new TreeSet<>();
        for (Method m : RailOfHeads.class.getDeclaredMethods()) {
            if (Modifier.isPrivate(m.getModifiers())) {
                continue;
            }
            Due.holds(m.getName() + " is public and gives an int",
                    m.getModifiers() == Modifier.PUBLIC && m.getReturnType() == int.class);
            methods.add(m.getName() + Arrays.toString(m.getParameterTypes()).replace('[', '(').replace(']', ')').replace(" ", ""));
        }
        Due.holds("methods " + methods, methods.equals(new TreeSet<>(Arrays.asList(FACE.split(" ")))));
        Due.is("constructors", RailOfHeads.class.getDeclaredConstructors().length, 1);
        Due.is("constructor", RailOfHeads.class.getDeclaredConstructors()[0].getModifiers(), Modifier.PUBLIC);
        Due.is("class", RailOfHeads.class.getModifiers(), Modifier.PUBLIC | Modifier.FINAL);
        long open = Arrays.stream((Member[]) RailOfHeads.class.getDeclaredFields())
                .filter(f -> !Modifier.isPrivate(f.getModifiers())).count();
        Due.is("fields that are not private", open, 4);
    }

    private static void constantsAreTheDocuments() {
        Due.is("NONE", RailOfHeads.NONE, -1000000);
        Due.is("BAD", RailOfHeads.BAD, -1000001);
        Due.is("STATE", RailOfHeads.STATE, -1000002);
        Due.is("FULL", RailOfHeads.FULL, -1000003);
    }

    private static int anyNumber(Random random) {
        switch (random.nextInt(12)) {
            case 0: return random.nextInt();
            case 1: return random.nextBoolean() ? Integer.MAX_VALUE : Integer.MIN_VALUE;
            case 2: return -1 - random.nextInt(3);
            case 3: return random.nextInt(130);
            default: return random.nextInt(9);
        }
    }

    private static void anyCallsAnswer(Random random) throws ReflectiveOperationException {
        Method[] methods = Arrays.stream(RailOfHeads.class.getDeclaredMethods())
                .filter(m -> Modifier.isPublic(m.getModifiers())).toArray(Method[]::new);
        Arrays.sort(methods, (a, b) -> a.getName().compareTo(b.getName()));
        RailOfHeads x = new RailOfHeads();
        for (int i = 0; i < 2000; i++) {
            if (random.nextInt(40) == 0) {
                Due.read(x, TEXTS[random.nextInt(TEXTS.length)]);
            }
            Method m = methods[random.nextInt(methods.length)];
            Object[] with = new Object[m.getParameterCount()];
            for (int k = 0; k < with.length; k++) {
                with[k] = m.getParameterTypes()[k] == long.class ? (Object) random.nextLong() : (Object) anyNumber(random);
            }
            m.invoke(x, with);
        }
    }

    private static int dearCalls(RailOfHeads x, String text) {
        int sum = Due.read(x, text) + x.image(0) + x.go(9) + x.image(1) + x.restore(0) + x.row(0, 0, 40) + x.set(0, 1, 1);
        sum += x.copy(0, 0, 0, 1, 9) + x.seen(120, 0) + x.bestRule(120, 0, 0) + x.bestRule(120, 1, 1) + x.tickets(0, 120);
        sum += x.oneWay(0, 120) + x.picture(0, 120, 0) + x.picture(0, 120, 1) + x.hung(120, 0) + x.fire();
        sum += x.counts(0, 0, 0, 40) + x.ask(0, 0) + x.ask(0, 1) + x.as(0, 1) + x.kind(0) + x.count(0) + x.drop(0);
        return sum;
    }

    private static void callsMakeNothing() {
        com.sun.management.ThreadMXBean threads = (com.sun.management.ThreadMXBean) ManagementFactory.getThreadMXBean();
        RailOfHeads x = new RailOfHeads();
        RailOfHeads y = new RailOfHeads();
        String text = TEXTS[0];
        int sum = dearCalls(x, text);
        long id = Thread.currentThread().getId();
        Due.feed(y, text);
        threads.getThreadAllocatedBytes(id);
        long before = threads.getThreadAllocatedBytes(id);
        long none = threads.getThreadAllocatedBytes(id) - before;
        before = threads.getThreadAllocatedBytes(id);
        sum += dearCalls(y, "");
        long made = threads.getThreadAllocatedBytes(id) - before;
        Due.is("bytes made by calls (" + sum + ")", made - none, 0);
    }
}
