import java.util.NoSuchElementException;

/**
 * What the boundary tests share. Each test quotes the words of the document that it is for; a call that is
 * refused is made on one of two towns that are made alike, and nothing may tell the two apart behind it.
 */
abstract class Boundary {
    interface Given {
        void make(StreetNamer town);
    }

    interface Call {
        Object of(StreetNamer town);
    }

    interface Numbered {
        Object of(StreetNamer town, int number);
    }

    static final Class<IndexOutOfBoundsException> INDEX = IndexOutOfBoundsException.class;
    static final Class<IllegalArgumentException> ARGUMENT = IllegalArgumentException.class;
    static final Class<UnsupportedOperationException> UNSUPPORTED = UnsupportedOperationException.class;
    static final Class<IllegalStateException> STATE = IllegalStateException.class;
    static final Class<NoSuchElementException> NO_ELEMENT = NoSuchElementException.class;
    static final Class<ArithmeticException> ARITHMETIC = ArithmeticException.class;
    static final int LEAST = Integer.MIN_VALUE;
    static final int GREATEST = Integer.MAX_VALUE;

    private static Document document;
    private static String sentence;

    static void open(Document opened) {
        document = opened;
    }

    /** Quotes the words of a section that the checks behind it are for. */
    static void says(String section, String words) {
        Check.due(section + " says: " + words, document.quote(section, words), true);
        sentence = section + ", \"" + words + "\": ";
        Seen.NAMES.clear();
    }

    static void taken(String what, Given given, Call call, Object due) {
        StreetNamer town = made(given);
        Check.due(sentence + what, Check.outcome(() -> call.of(town)), due);
    }

    static void refused(String what, Given given, Class<? extends RuntimeException> kind, Call call) {
        String throwing = "throws " + kind.getSimpleName();
        StreetNamer town = made(given);
        Check.due(sentence + what, Check.outcome(() -> call.of(town)), throwing);
        Check.due(sentence + what + ", what is seen behind it", Seen.of(() -> behind(given, call)), Seen.of(() -> made(given)));
    }

    private static StreetNamer behind(Given given, Call call) {
        StreetNamer town = made(given);
        Check.outcome(() -> call.of(town));
        return town;
    }

    static StreetNamer made(Given given) {
        StreetNamer town = new StreetNamer();
        given.make(town);
        return town;
    }

    /** A call that asks for a street: on both sides of the numbers that there are, and with one that is gone. */
    static void asksStreet(Numbered call) {
        Given some = all(streets(3), door(0, 20, 'l'), door(1, 20, 'l'), door(2, 20, 'l'), t -> t.join(0, 1), name("n"));
        for (int street : new int[] {0, 2}) {
            standsFor("street " + street, some, t -> call.of(t, street));
        }
        refused("street 1, which is gone", some, INDEX, t -> call.of(t, 1));
        refused("street 0 in a new town", nothing(), INDEX, t -> call.of(t, 0));
        for (int street : new int[] {-1, 3, 11, 12, LEAST, GREATEST}) {
            refused("street " + street, some, INDEX, t -> call.of(t, street));
        }
        Given most = all(streets(12), door(0, 20, 'l'), name("n"));
        standsFor("street 11 of 12", most, t -> call.of(t, 11));
        refused("street 12 of 12", most, INDEX, t -> call.of(t, 12));
    }

    /** A call that asks for a door: on both sides of the numbers that there are; one that is gone has its number yet. */
    static void asksDoor(Numbered call) {
        Given some = all(streets(3), door(0, 20, 'l'), door(0, 20, 'l'), door(0, 20, 'l'), t -> t.remove(1));
        for (int door : new int[] {0, 1, 2}) {
            standsFor("door " + door, some, t -> call.of(t, door));
        }
        refused("door 0 in a new town", nothing(), INDEX, t -> call.of(t, 0));
        refused("door 0 of streets without doors", streets(2), INDEX, t -> call.of(t, 0));
        for (int door : new int[] {-1, 3, 39, 40, LEAST, GREATEST}) {
            refused("door " + door, some, INDEX, t -> call.of(t, door));
        }
        Given most = all(streets(2), doors(40, 0, 20, 'l'));
        standsFor("door 39 of 40", most, t -> call.of(t, 39));
        refused("door 40 of 40", most, INDEX, t -> call.of(t, 40));
    }

    /** The number is one that there is, whatever the call answers for it. */
    private static void standsFor(String what, Given given, Call call) {
        StreetNamer town = made(given);
        Object got = Check.outcome(() -> call.of(town));
        Check.due(sentence + what + " is there", "throws IndexOutOfBoundsException".equals(got), false);
    }

    // ---- towns ----

    static Given nothing() {
        return t -> { };
    }

    static Given all(Given... parts) {
        return t -> {
            for (Given part : parts) {
                part.make(t);
            }
        };
    }

    static Given times(int count, Given part) {
        return t -> {
            for (int i = 0; i < count; i++) {
                part.make(t);
            }
        };
    }

    /** Lets a name be typed, and nothing else. */
    static Given name(String name) {
        return t -> typed(t, name);
    }

    static void typed(StreetNamer town, String name) {
        Seen.NAMES.add(name);
        Check.typed(town, name);
    }

    static Given street(String name, int length, char way, boolean isBack) {
        return t -> {
            typed(t, name);
            t.street(length, way, isBack);
        };
    }

    /** Streets a, b, c and so on, of 50 metres, by building. */
    static Given streets(int count) {
        return t -> {
            for (int i = 0; i < count; i++) {
                street(String.valueOf((char) ('a' + i)), 50, 'y', false).make(t);
            }
        };
    }

    static Given second(int street, String name) {
        return t -> {
            typed(t, name);
            t.translate(street);
        };
    }

    static Given first(int street, String name) {
        return t -> {
            typed(t, name);
            t.rename(street);
        };
    }

    static Given way(int street, char way, boolean isBack) {
        return t -> t.way(street, way, isBack);
    }

    static Given door(int street, int metre, char side) {
        return t -> t.door(street, metre, side);
    }

    static Given doors(int count, int street, int metre, char side) {
        return times(count, door(street, metre, side));
    }

    static Given corner(int door, int street, int metre, char side) {
        return t -> t.corner(door, street, metre, side);
    }

    static Given gone(int... doors) {
        return t -> {
            for (int door : doors) {
                t.remove(door);
            }
        };
    }

    // ---- what is looked at ----

    /** The address that a new door gets. */
    static int comes(StreetNamer town, int street, int metre, char side) {
        return town.address(town.door(street, metre, side), false);
    }

    /** The addresses of all doors on their first streets, by their numbers. */
    static String addresses(StreetNamer town) {
        return addresses(town, false);
    }

    static String addresses(StreetNamer town, boolean isCorner) {
        StringBuilder seen = new StringBuilder();
        for (int d = 0; d < 40; d++) {
            int door = d;
            Object code = Check.outcome(() -> town.address(door, isCorner));
            if (!"throws IndexOutOfBoundsException".equals(code)) {
                seen.append(d == 0 ? "" : " ").append(code instanceof Integer ? code : "-");
            }
        }
        return seen.toString();
    }

    static Object found(StreetNamer town, String name, int code) {
        typed(town, name);
        return town.find(code);
    }

    static Object sent(StreetNamer town, String name, int code) {
        typed(town, name);
        return town.send(code);
    }

    static Object until(StreetNamer town, String name, int code) {
        typed(town, name);
        return town.until(code);
    }
}
