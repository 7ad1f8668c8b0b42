import java.io.IOException;
import java.lang.reflect.InvocationTargetException;
import java.lang.reflect.Method;
import java.lang.reflect.Modifier;
import java.nio.file.Files;
import java.nio.file.Path;
import java.util.ArrayList;
import java.util.Arrays;
import java.util.List;
import java.util.Map;
import java.util.Random;
import java.util.Set;
import java.util.TreeMap;
import java.util.TreeSet;

/** Long runs of calls, the same for StreetNamer and for PlainTown, that must answer alike. */
public final class RandomRunsTest {
    private static final int RUNS = 800;
    private static final int CALLS = 512;
    private static final int[] ODD_ONES = {-1, -2, 12, 40, 41, 1000, Integer.MIN_VALUE, Integer.MAX_VALUE};
    private static final Map<String, Integer> OUTCOMES = new TreeMap<>();
    private static final Set<String> WHYS = new TreeSet<>();

    private final Random random;
    private final int profile;
    private final StreetNamer town = new StreetNamer();
    private final PlainTown plain = new PlainTown();
    private final List<String> said = new ArrayList<>();
    private final List<Integer> codes = new ArrayList<>();

    private RandomRunsTest(long seed) {
        random = new Random(seed);
        profile = (int) (seed % 4);
    }

    public static void main(String[] args) throws ReflectiveOperationException, IOException {
        for (long seed = 0; seed < RUNS; seed++) {
            RandomRunsTest run = new RandomRunsTest(seed);
            String wrong = run.go();
            Check.due("run " + seed, wrong, "");
        }
        dueToHappen();
        areWritten(Files.readString(Path.of("src/main/java/StreetNamer.java")));
        Check.end("RandomRunsTest");
    }

    /** The runs are worth something only if they reach each answer and each exception of the document. */
    private static void dueToHappen() {
        Check.due("as many old addresses as can be, in some run", OUTCOMES.containsKey("forgetting"), true);
        for (Method method : StreetNamer.class.getDeclaredMethods()) {
            if (!Modifier.isPublic(method.getModifiers())) {
                continue;
            }
            Check.due(method.getName() + " answers in some run", OUTCOMES.containsKey(method.getName()), true);
            for (Class<?> kind : method.getExceptionTypes()) {
                String outcome = method.getName() + " throws " + kind.getSimpleName();
                Check.due(outcome + " in some run", OUTCOMES.containsKey(outcome), true);
            }
        }
    }

    /** What the machine throws bears a text of its own, or none. */
    private static void areWritten(String source) {
        for (String why : WHYS) {
            Check.due("the program throws with \"" + why + '"', source.contains("Exception(\"" + why + "\")"), true);
        }
    }

    private String go() throws ReflectiveOperationException {
        String empty = call("goneShare") + call("meanDoors") + call("checksum") + call("isTrue");
        if (!empty.isEmpty()) {
            return empty;
        }
        for (int i = 4; i < CALLS; i++) {
            String wrong = one(i);
            if (!wrong.isEmpty()) {
                return wrong + " in\n" + String.join("\n", said);
            }
        }
        return "";
    }

    private String one(int i) throws ReflectiveOperationException {
        int kind = random.nextInt(100);
        if (i < 12 + 12 * profile) {
            return i % 3 == 2 ? call("street", length(), way(), random.nextBoolean()) : call("type", small());
        }
        if (kind < 16) return call("door", street(), metre(), side());
        if (kind < 23) return call("corner", door(), street(), metre(), side());
        if (kind < 31) return call("type", random.nextInt(9) == 0 ? letter() : small());
        if (kind < 33) return call("wipe");
        if (kind < 35) return call("street", length(), way(), random.nextBoolean());
        if (kind < 38) return call("rename", street());
        if (kind < 41) return call("translate", street());
        if (kind < 44) return call("way", street(), way(), random.nextBoolean());
        if (kind < 48) return call("renumber", street());
        if (kind < 50) return call("merge", door(), door());
        if (kind < 51) return call("remove", door());
        if (kind < 52) return profile == 0 && i < 300 ? call("olds") : call("join", street(), street());
        if (kind < 54) return call("day", random.nextInt(4) == 0 ? odd() : 1 + random.nextInt(9999));
        if (kind < 60) return call("address", door(), random.nextBoolean());
        if (kind < 62) return call("streetOf", door(), random.nextBoolean());
        if (kind < 63) return call("isGone", door());
        if (kind < 67) return call("find", code());
        if (kind < 72) return call("send", code());
        if (kind < 75) return call("until", code());
        if (kind < 76) return call("olds");
        if (kind < 78) return call("doors", street());
        if (kind < 83) return call("walk", street(), random.nextInt(20) == 0 ? odd() : random.nextInt(20));
        if (kind < 86) return call("steps", street());
        if (kind < 89) return call("clashes", street());
        if (kind < 90) return call("streets");
        if (kind < 91) return call("goneShare");
        if (kind < 92) return call("meanDoors");
        if (kind < 93) return call("isTrue");
        if (kind < 95) return call("letter", street(), random.nextBoolean(), random.nextInt(9) - 1);
        return call("checksum");
    }

    private String call(String name, Object... args) throws ReflectiveOperationException {
        Object got = answer(town, name, args);
        Object want = answer(plain, name, args);
        said.add(name + Arrays.toString(args) + " " + want);
        String throwing = want instanceof String ? " " + want : "";
        OUTCOMES.merge(name + throwing, 1, Integer::sum);
        if (name.equals("olds") && want.equals(200)) {
            OUTCOMES.merge("forgetting", 1, Integer::sum);
        }
        if (want instanceof Integer && (name.equals("address") || name.equals("corner"))) {
            codes.add((Integer) want);
        }
        return want.equals(got) ? "" : name + Arrays.toString(args) + " answered " + got + ", due is " + want;
    }

    private static Object answer(Object object, String name, Object[] args) throws ReflectiveOperationException {
        for (Method method : object.getClass().getDeclaredMethods()) {
            if (method.getName().equals(name)) {
                try {
                    return method.invoke(object, args);
                } catch (InvocationTargetException e) {
                    if (object instanceof StreetNamer) {
                        WHYS.add(String.valueOf(e.getCause().getMessage()));
                    }
                    return "throws " + e.getCause().getClass().getSimpleName();
                }
            }
        }
        throw new NoSuchMethodException(name);
    }

    private int odd() {
        return ODD_ONES[random.nextInt(ODD_ONES.length)];
    }

    private char small() {
        return (char) ('a' + random.nextInt(profile < 2 ? 3 : 6));
    }

    private char letter() {
        return "azAZ`{\u00e9 0".charAt(random.nextInt(9));
    }

    private char way() {
        return "smysmysmysmsx".charAt(random.nextInt(13));
    }

    private char side() {
        return "lrlrlrlrlrllllx".charAt(random.nextInt(15));
    }

    private int length() {
        if (random.nextInt(15) == 0) {
            return random.nextBoolean() ? odd() : 9 + 991 * random.nextInt(2);
        }
        return profile == 3 ? 10 + random.nextInt(990) : 10 + random.nextInt(profile == 0 ? 5 : 90);
    }

    private int street() {
        if (random.nextInt(25) == 0) {
            return odd();
        }
        return random.nextInt(profile == 0 ? 2 : profile == 3 ? 12 : 4);
    }

    private int door() {
        return random.nextInt(30) == 0 ? odd() : random.nextInt(30);
    }

    private int metre() {
        if (random.nextInt(25) == 0) {
            return odd();
        }
        return random.nextInt(profile == 0 ? 11 : profile == 3 ? 400 : 70);
    }

    private int code() {
        if (random.nextInt(12) == 0) {
            return odd();
        }
        if (!codes.isEmpty() && random.nextBoolean()) {
            return codes.get(random.nextInt(codes.size()));
        }
        return 10 * (1 + random.nextInt(9)) + (random.nextBoolean() ? 0 : random.nextInt(10));
    }
}
