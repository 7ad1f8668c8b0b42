/** The boundary cases of "Terms": old addresses, how many are kept, what becomes old, and in which order. */
final class OldBoundaries extends Boundary {
    private static final String TERMS = "Terms";
    private static final int MOST = 200;
    /** The street with ten doors of a town that is filled. */
    private static final int MANY = 1;

    private OldBoundaries() {
    }

    static void run() {
        partsOfOldAddresses();
        keptAndForgotten();
        manyForgottenAtOnce();
        forgottenTwiceRound();
        justTheLastOnes();
        oldByRenumbering();
        oldByNames();
        oldByJoining();
        oldByDoorsGone();
        doorsByTheirNumbers();
    }

    private static void partsOfOldAddresses() {
        says(TERMS, "An old address is a name, a code, a door, and the day on which it became old;");
        Given two = all(street("a", 50, 'y', false), second(0, "b"), door(0, 5, 'l'), door(0, 6, 'l'));
        Given old = all(two, t -> t.day(9), t -> t.merge(0, 1), t -> t.day(1));
        taken("the day", old, t -> until(t, "a", 10), 9);
        taken("the day with the other name", old, t -> until(t, "b", 10), 9);
        taken("on the day 0", all(two, gone(0)), t -> until(t, "a", 10), 0);
        taken("the door", old, t -> sent(t, "a", 10), 1);
        taken("as many as names", old, t -> t.olds(), 2);
        refused("another name", all(old, name("ab")), NO_ELEMENT, t -> t.until(10));
        refused("another code", all(old, name("a")), NO_ELEMENT, t -> t.until(20));
        refused("a code with a letter", all(old, name("a")), NO_ELEMENT, t -> t.until(11));
    }

    // ---- how many are kept ----

    private static void keptAndForgotten() {
        says(TERMS, "at most 200 are kept, the first ones being forgotten.");
        taken("199", filled(199), t -> t.olds(), 199);
        taken("200", filled(200), t -> t.olds(), 200);
        taken("201", filled(201), t -> t.olds(), 200);
        taken("400", filled(400), t -> t.olds(), 200);
        taken("the first one of 199", filled(199), t -> until(t, "a", 10), 0);
        taken("the first one of 200", filled(200), t -> until(t, "a", 10), 0);
        refused("the first one of 201", all(filled(201), name("a")), NO_ELEMENT, t -> t.until(10));
        refused("a letter with the first one of 200, which is lost", all(filled(200), name("a")), UNSUPPORTED, t -> t.send(10));
        refused("a letter with the first one of 201", all(filled(201), name("a")), NO_ELEMENT, t -> t.send(10));
        taken("the second one of 201", filled(201), t -> until(t, "a", 20), 0);
        refused("the second one of 202", all(filled(202), name("a")), NO_ELEMENT, t -> t.until(20));
        taken("the third one of 202", filled(202), t -> until(t, "a", 30), 0);
        refused("the third one of 203", all(filled(203), name("a")), NO_ELEMENT, t -> t.until(30));
    }

    private static void manyForgottenAtOnce() {
        says(TERMS, "at most 200 are kept, the first ones being forgotten.");
        taken("ten more than 190", filled(190), t -> renamed(t, MANY), 200);
        taken("ten more than 190, the first one", all(filled(190), t -> renamed(t, MANY)), t -> until(t, "a", 10), 0);
        taken("ten more than 191", filled(191), t -> renamed(t, MANY), 200);
        refused("ten more than 191, the first one", all(filled(191), t -> renamed(t, MANY), name("a")), NO_ELEMENT, t -> t.until(10));
        taken("ten more than 191, the second one", all(filled(191), t -> renamed(t, MANY)), t -> until(t, "a", 20), 0);
        Given most = all(street("a", 999, 'y', false), second(0, "b"), doors(40, 0, 5, 'l'), first(0, "c"), first(0, "d"),
                second(0, "e"), second(0, "f"));
        taken("160 of 40 doors", most, t -> t.olds(), 160);
        taken("40 more", all(most, first(0, "g")), t -> t.olds(), 200);
        taken("the first one of 200", all(most, first(0, "g")), t -> until(t, "a", 10), 0);
        // The door 2 keeps its code 30: 38 doors with two names, and 2 as door 0 is gone.
        Given more = all(most, first(0, "g"), gone(0), way(0, 's', false), t -> t.renumber(0));
        taken("78 more", more, t -> t.olds(), 200);
        refused("the 40th one", all(more, name("a")), NO_ELEMENT, t -> t.until(400));
        refused("the 78th one", all(more, name("c")), NO_ELEMENT, t -> t.until(380));
        taken("the 79th one", more, t -> until(t, "c", 390), 0);
    }

    private static void forgottenTwiceRound() {
        says(TERMS, "at most 200 are kept, the first ones being forgotten.");
        Given round = all(filled(400), t -> t.day(7), door(0, 5, 'l'), gone(14));
        taken("behind 401", round, t -> t.olds(), 200);
        taken("the newest one", round, t -> until(t, "a", 40), 7);
        taken("199 more", all(round, t -> more(t, MANY, 199)), t -> until(t, "a", 40), 7);
        refused("200 more", all(round, t -> more(t, MANY, 200), name("a")), NO_ELEMENT, t -> t.until(40));
    }

    /** On both sides of the first one that is kept, and the newest one, as their places come round. */
    private static void justTheLastOnes() {
        says(TERMS, "at most 200 are kept, the first ones being forgotten.");
        for (int count : new int[] {1, 9, 10, 199, 200, 201, 202, 209, 399, 400, 401, 402, 450}) {
            int tens = count / 10;
            for (int place : new int[] {0, count - MOST - 1, count - MOST, count - 1}) {
                if (place < 0) {
                    continue;
                }
                boolean isOfTen = place < 10 * tens;
                int turn = isOfTen ? place / 10 : place - 10 * tens;
                String name = turnName(isOfTen ? 't' : 's', turn);
                int code = isOfTen ? 10 * (place % 10 + 1) : 10;
                Object due = isOfTen ? turn + 1 : tens + turn + 1;
                taken("number " + place + " of " + count, t -> oneByOne(t, count), t -> until(t, name, code),
                        place < count - MOST ? "throws NoSuchElementException" : due);
            }
        }
    }

    /** Makes old addresses, each of them another one: ten a day by a street with ten doors, then one a day by another street. */
    private static void oneByOne(StreetNamer town, int count) {
        street(turnName('t', 0), 50, 'y', false).make(town);
        doors(10, 0, 5, 'l').make(town);
        street(turnName('s', 0), 50, 'y', false).make(town);
        door(1, 5, 'l').make(town);
        for (int turn = 1; turn <= count / 10; turn++) {
            town.day(1);
            first(0, turnName('t', turn)).make(town);
        }
        for (int turn = 1; turn <= count % 10; turn++) {
            town.day(1);
            first(1, turnName('s', turn)).make(town);
        }
    }

    private static String turnName(char street, int turn) {
        return "" + street + (char) ('a' + turn / 26) + (char) ('a' + turn % 26);
    }

    // ---- what becomes old, and in which order ----

    private static void oldByRenumbering() {
        says(TERMS, "Each address of a door, with each name of the street, the first one first, becomes old as the street is renumbered,"
                + " if the code changes;");
        Given three = all(street("a", 50, 'y', false), door(0, 5, 'l'), door(0, 6, 'l'), door(0, 7, 'r'), way(0, 's', false));
        oldInOrder("one name; 1 stays 1", three, t -> t.renumber(0), "a20", "a30");
        oldInOrder("two names", all(three, second(0, "b")), t -> t.renumber(0), "a20", "b20", "a30", "b30");
        oldInOrder("the second one older than the first one", all(three, second(0, "b"), first(0, "c")),
                t -> t.renumber(0), "c20", "b20", "c30", "b30");
        oldInOrder("no code changes", all(three, gone(1, 2)), t -> t.renumber(0));
        oldInOrder("a code on another street does not change", all(three, street("d", 50, 'y', false), corner(1, 1, 5, 'l')),
                t -> t.renumber(0), "a20", "a30");
        oldInOrder("the other street is renumbered", all(three, street("d", 50, 'y', false), corner(1, 1, 5, 'l'),
                corner(0, 1, 4, 'l'), way(1, 's', false)), t -> t.renumber(1), "d20", "d10");
    }

    private static void oldByNames() {
        says(TERMS, "as a name goes, with that name alone;");
        Given two = all(street("a", 50, 'y', false), door(0, 5, 'l'), door(0, 6, 'l'));
        Given named = all(two, second(0, "b"));
        oldInOrder("a first name without a second one", all(two, name("c")), t -> t.rename(0), "a10", "a20");
        oldInOrder("a first name", all(named, name("c")), t -> t.rename(0), "a10", "a20");
        oldInOrder("a second name in place of none", all(two, name("c")), t -> t.translate(0));
        oldInOrder("a second name", all(named, name("c")), t -> t.translate(0), "b10", "b20");
        oldInOrder("a second name for none", all(named, name("")), t -> t.translate(0), "b10", "b20");
        oldInOrder("none for none", all(two, name("")), t -> t.translate(0));
        oldInOrder("of a corner, on that street alone", all(named, street("d", 50, 'm', false), corner(0, 1, 30, 'l'), name("c")),
                t -> t.rename(1), "d70");
    }

    private static void oldByJoining() {
        says(TERMS, "as the street is joined to another one;");
        Given two = all(street("a", 50, 'y', false), street("b", 50, 'm', false), door(0, 5, 'l'), door(1, 45, 'l'), door(1, 5, 'r'));
        oldInOrder("one name", two, t -> t.join(0, 1), "b90", "b20");
        oldInOrder("two names", all(two, second(1, "c")), t -> t.join(0, 1), "b90", "c90", "b20", "c20");
        oldInOrder("the names of the one that stays do not", all(two, second(0, "c")), t -> t.join(0, 1), "b90", "b20");
        oldInOrder("the code does not change", all(street("a", 10, 'y', false), street("b", 10, 'y', false), door(1, 5, 'l')),
                t -> t.join(0, 1), "b10");
        oldInOrder("a door that has both", all(two, corner(1, 0, 9, 'r'), corner(0, 1, 35, 'r')), t -> t.join(0, 1),
                "b80", "b90", "b20");
        oldInOrder("a corner with a third street", all(two, street("d", 50, 'y', false), corner(1, 2, 5, 'l')), t -> t.join(0, 1),
                "b90", "b20");
        oldInOrder("no doors", all(street("a", 10, 'y', false), street("b", 10, 'y', false), door(0, 5, 'l')), t -> t.join(0, 1));
    }

    private static void oldByDoorsGone() {
        says(TERMS, "as the door is gone, that of its first street first.");
        Given corner = all(street("a", 50, 'y', false), second(0, "b"), street("c", 50, 'm', false), second(1, "d"),
                door(1, 5, 'r'), door(0, 5, 'l'), corner(0, 0, 9, 'l'));
        oldInOrder("taken away", corner, t -> t.remove(0), "c20", "d20", "a20", "b20");
        oldInOrder("merged", corner, t -> t.merge(0, 1), "c20", "d20", "a20", "b20");
        oldInOrder("no corner", corner, t -> t.remove(1), "a10", "b10");
        oldInOrder("merged, no corner", corner, t -> t.merge(1, 0), "a10", "b10");
        oldInOrder("a corner again, its first street gone", all(corner, t -> t.join(0, 1), street("e", 50, 'm', false),
                corner(0, 2, 45, 'l')), t -> t.remove(0), "a20", "b20", "e90");
    }

    private static void doorsByTheirNumbers() {
        says(TERMS, "Doors go by their numbers in that.");
        Given four = all(street("a", 50, 'm', false), street("b", 10, 'm', false), door(1, 5, 'l'), door(0, 45, 'l'),
                door(0, 25, 'r'), door(0, 5, 'l'), corner(0, 0, 15, 'l'));
        String[] order = {"a30", "a90", "a60", "a10"};
        oldInOrder("renamed", all(four, name("c")), t -> t.rename(0), order);
        oldInOrder("translated", all(four, second(0, "a".repeat(7)), name("c")), t -> t.translate(0),
                "aaaaaaa30", "aaaaaaa90", "aaaaaaa60", "aaaaaaa10");
        oldInOrder("renumbered", all(four, way(0, 'm', true)), t -> t.renumber(0), "a30", "a90", "a10");
        oldInOrder("joined", all(four, street("d", 50, 'm', false)), t -> t.join(2, 0), order);
        oldInOrder("joined, going back", all(four, street("d", 50, 'm', true), way(0, 'm', true)), t -> t.join(2, 0), order);
    }

    // ---- towns with many old addresses ----

    /**
     * The old addresses that a call makes, and no others, are there behind it; as others become old,
     * they are forgotten one by one in the order told.
     */
    private static void oldInOrder(String what, Given given, Call event, String... order) {
        StreetNamer town = made(given);
        int before = town.olds();
        event.of(town);
        taken(what + ", how many", nothing(), t -> town.olds() - before, order.length);
        int many = withFillers(town);
        more(town, many, MOST - town.olds() + before);
        for (String address : order) {
            String name = address.replaceAll("[0-9]", "");
            int code = Integer.parseInt(address.substring(name.length()));
            taken(what + ", kept yet: " + address, nothing(), t -> until(town, name, code), 0);
            more(town, many, 1);
            taken(what + ", forgotten: " + address, nothing(), t -> until(town, name, code), "throws NoSuchElementException");
        }
    }

    /** As many old addresses in all as told, those that are forgotten among them; a10, a20 and a30 are the first ones. */
    private static Given filled(int count) {
        return all(streets(1), doors(3, 0, 5, 'l'), gone(0, 1, 2), t -> more(t, withFillers(t), count - 3));
    }

    /** Adds two streets, one with ten doors and one with a door, and answers the number of the first one. */
    private static int withFillers(StreetNamer town) {
        typed(town, "v");
        int many = town.street(50, 'y', false);
        doors(10, many, 5, 'l').make(town);
        typed(town, "y");
        door(town.street(50, 'y', false), 5, 'l').make(town);
        return many;
    }

    private static void more(StreetNamer town, int many, int count) {
        for (int i = 0; i < count / 10; i++) {
            renamed(town, many);
        }
        for (int i = 0; i < count % 10; i++) {
            renamed(town, many + 1);
        }
    }

    /** Gives a street that is called v or w, or y or z, the other name. */
    private static int renamed(StreetNamer town, int street) {
        char now = town.letter(street, false, 0);
        typed(town, String.valueOf(now == 'v' ? 'w' : now == 'w' ? 'v' : now == 'y' ? 'z' : 'y'));
        return town.rename(street);
    }
}
