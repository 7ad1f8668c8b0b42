/** What the tests share: answers that are due, calls that must be refused, and towns made in a line. */
final class Check {
    interface Call {
        Object answer();
    }

    private static int passed = 0;
    private static int failed = 0;

    private Check() {
    }

    static void due(String what, Object got, Object want) {
        if (want.equals(got)) {
            passed++;
        } else {
            failed++;
            System.out.println(what + " answered " + got + ", due is " + want);
        }
    }

    /** Answers what a call answers, or the name of the exception that it throws. */
    static Object outcome(Call call) {
        try {
            return call.answer();
        } catch (RuntimeException e) {
            return "throws " + e.getClass().getSimpleName();
        }
    }

    /** A refused call throws just that exception, and changes nothing that can be seen. */
    static void refused(String what, StreetNamer town, Class<? extends RuntimeException> kind, Call call) {
        String before = sight(town);
        due(what, outcome(call), "throws " + kind.getSimpleName());
        due(what + ", what is seen behind it", sight(town), before);
    }

    /** All that can be seen of a town without a change. */
    static String sight(StreetNamer town) {
        StringBuilder seen = new StringBuilder();
        seen.append(town.streets()).append(' ').append(town.olds()).append(' ').append(town.checksum());
        for (int s = 0; s < 12; s++) {
            int street = s;
            seen.append("\nstreet ").append(s).append(' ').append(nameOf(town, s, false));
            seen.append(' ').append(nameOf(town, s, true));
            seen.append(' ').append(outcome(() -> town.doors(street)));
            seen.append(' ').append(outcome(() -> town.steps(street)));
            seen.append(' ').append(outcome(() -> town.clashes(street)));
        }
        for (int d = 0; d < 40; d++) {
            int door = d;
            seen.append("\ndoor ").append(d).append(' ').append(outcome(() -> town.isGone(door)));
            seen.append(' ').append(outcome(() -> town.address(door, false)));
            seen.append(' ').append(outcome(() -> town.address(door, true)));
            seen.append(' ').append(outcome(() -> town.streetOf(door, false)));
            seen.append(' ').append(outcome(() -> town.streetOf(door, true)));
        }
        return seen.toString();
    }

    static String nameOf(StreetNamer town, int street, boolean isSecond) {
        StringBuilder name = new StringBuilder();
        for (int i = 0; i < 8; i++) {
            int index = i;
            Object letter = outcome(() -> town.letter(street, isSecond, index));
            if (letter instanceof Character) {
                name.append(letter);
            }
        }
        return name.toString();
    }

    static void typed(StreetNamer town, String name) {
        town.wipe();
        for (char letter : name.toCharArray()) {
            town.type(letter);
        }
    }

    static int street(StreetNamer town, String name, int length, char way, boolean isBack) {
        typed(town, name);
        return town.street(length, way, isBack);
    }

    static int find(StreetNamer town, String name, int code) {
        typed(town, name);
        return town.find(code);
    }

    static Object send(StreetNamer town, String name, int code) {
        typed(town, name);
        return outcome(() -> town.send(code));
    }

    static Object until(StreetNamer town, String name, int code) {
        typed(town, name);
        return outcome(() -> town.until(code));
    }

    /** Prints how a test went, and ends it with 1 if something was wrong. */
    static void end(String test) {
        System.out.println(test + ": " + passed + " answers as due, " + failed + " wrong");
        if (failed > 0) {
            System.exit(1);
        }
    }
}
