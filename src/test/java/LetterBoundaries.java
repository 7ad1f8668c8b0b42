/** The boundary cases of the promises of days, letters, and old addresses. */
final class LetterBoundaries extends Boundary {
    private static final String CODE = "`code`: 10 times the number, and 1 to 9 for the letters a to i, 0 for none";
    private static final int[] NO_CODES = {0, 1, 9, -1, -10, 20, 101, 1010, 10 + (1 << 16), LEAST, LEAST + 10, GREATEST};

    private LetterBoundaries() {
    }

    static void run() {
        days();
        finding();
        findingNone();
        sending();
        sendingNone();
        lost();
        untils();
        untilsNone();
        olds();
    }

    private static void days() {
        says("Promise 15", "Lets days pass.");
        taken("on the day", all(streets(1), door(0, 5, 'l'), t -> t.day(3), gone(0), t -> t.day(4)), t -> until(t, "a", 10), 3);
        says("Promise 15", "Returns the day.");
        taken("the first day", nothing(), t -> t.day(1), 1);
        taken("a day more", nothing(), t -> t.day(9999) * 0 + t.day(1), 10000);
        taken("511 times 9999 days, and 9999 more", times(511, t -> t.day(9999)), t -> t.day(9999), 5119488);
        says("Promise 15", "`days`: 1 to 9999");
        says("Promise 15", "Throws `IllegalArgumentException` if the number is out of range");
        for (int days : new int[] {1, 2, 9998, 9999}) {
            taken("days " + days, nothing(), t -> t.day(days), days);
        }
        for (int days : new int[] {0, 10000, -1, -9999, LEAST, LEAST + 1, GREATEST, 65537}) {
            refused("days " + days, all(streets(1), t -> t.day(7)), ARGUMENT, t -> t.day(days));
        }
    }

    // ---- addresses now ----

    private static void finding() {
        says("Promise 19", "Returns which door has an address now, with the typed name, which stays typed.");
        says("Promise 19", "Returns the door.");
        Given two = all(streets(2), second(0, "z"), door(1, 5, 'l'), doors(2, 0, 5, 'l'), corner(0, 0, 5, 'l'));
        taken("by the first name", two, t -> found(t, "a", 10), 1);
        taken("by the second name", two, t -> found(t, "z", 20), 2);
        taken("at its first street", two, t -> found(t, "b", 10), 0);
        taken("at the corner", two, t -> found(t, "a", 30), 0);
        taken("at the corner by the second name", two, t -> found(t, "z", 30), 0);
        taken("the name stays typed", two, t -> (int) found(t, "z", 30) + t.wipe(), 1);
        taken("the name stays typed where there is none", all(two, name("abcdefg"), t -> Check.outcome(() -> t.find(10))),
                t -> t.wipe(), 7);
        says("Promise 19", CODE);
        Given ten = all(street("a", 999, 'm', false), doors(10, 0, 999, 'r'), doors(10, 0, 0, 'l'));
        for (int letter = 0; letter <= 9; letter++) {
            int code = letter;
            taken("code 2000 + " + letter, ten, t -> found(t, "a", 2000 + code), letter);
            taken("code 10 + " + letter, ten, t -> found(t, "a", 10 + code), 10 + letter);
        }
    }

    private static void findingNone() {
        says("Promise 19", "Throws `NoSuchElementException` if there is none");
        Given one = all(street("a", 50, 'm', false), second(0, "z"), door(0, 5, 'l'));
        for (int code : NO_CODES) {
            refused("code " + code, all(one, name("a")), NO_ELEMENT, t -> t.find(code));
        }
        refused("a letter more", all(one, name("a")), NO_ELEMENT, t -> t.find(11));
        refused("no letter, but one with a letter", all(one, door(0, 5, 'l'), gone(0), name("a")), NO_ELEMENT, t -> t.find(10));
        refused("another name", all(one, name("b")), NO_ELEMENT, t -> t.find(10));
        refused("nothing typed", all(one, name("")), NO_ELEMENT, t -> t.find(10));
        refused("nothing typed, no second name", all(one, second(0, ""), name("")), NO_ELEMENT, t -> t.find(10));
        refused("gone", all(one, gone(0), name("a")), NO_ELEMENT, t -> t.find(10));
        refused("the name before", all(one, first(0, "c"), name("a")), NO_ELEMENT, t -> t.find(10));
        refused("the second name before", all(one, second(0, ""), name("z")), NO_ELEMENT, t -> t.find(10));
        refused("renumbered", all(one, door(0, 15, 'l'), way(0, 'm', true), t -> t.renumber(0), name("a")), NO_ELEMENT, t -> t.find(10));
        refused("joined", all(one, street("b", 50, 'm', false), t -> t.join(1, 0), name("a")), NO_ELEMENT, t -> t.find(10));
    }

    // ---- letters ----

    private static void sending() {
        says("Promise 20", "Sends a letter, with the typed name, which stays typed.");
        says("Promise 20", "Returns the door.");
        Given two = all(streets(2), second(0, "z"), door(1, 5, 'l'), doors(2, 0, 5, 'l'), corner(0, 0, 5, 'l'));
        taken("by the first name", two, t -> sent(t, "a", 10), 1);
        taken("by the second name", two, t -> sent(t, "z", 20), 2);
        taken("at the corner", two, t -> sent(t, "a", 30), 0);
        taken("by an old name", all(two, first(0, "c")), t -> sent(t, "a", 30), 0);
        taken("by an old second name", all(two, second(0, "")), t -> sent(t, "z", 30), 0);
        taken("by the name of a street that is gone", all(two, t -> t.join(1, 0)), t -> sent(t, "z", 20), 2);
        taken("by an old corner", all(two, t -> t.merge(0, 2)), t -> sent(t, "a", 30), 2);
        taken("the name stays typed", two, t -> (int) sent(t, "z", 30) + t.wipe(), 1);
        taken("the name stays typed where the letter is lost", all(two, gone(2), name("z"), t -> Check.outcome(() -> t.send(20))),
                t -> t.wipe(), 1);
        says("Promise 20", CODE);
        Given ten = all(street("a", 999, 'm', false), doors(10, 0, 999, 'r'), first(0, "b"));
        for (int letter = 0; letter <= 9; letter++) {
            int code = 2000 + letter;
            taken("code " + code, ten, t -> sent(t, "b", code), letter);
            taken("old code " + code, ten, t -> sent(t, "a", code), letter);
        }
    }

    private static void sendingNone() {
        says("Promise 20", "Throws `NoSuchElementException` if there is no such address, now or old");
        Given one = all(street("a", 50, 'm', false), door(0, 5, 'l'));
        taken("now", one, t -> sent(t, "a", 10), 0);
        taken("old", all(one, first(0, "c")), t -> sent(t, "a", 10), 0);
        for (int code : NO_CODES) {
            refused("code " + code, all(one, first(0, "c"), name("a")), NO_ELEMENT, t -> t.send(code));
        }
        refused("a letter more", all(one, gone(0), name("a")), NO_ELEMENT, t -> t.send(11));
        refused("another name", all(one, gone(0), name("b")), NO_ELEMENT, t -> t.send(10));
        refused("nothing typed", all(one, gone(0), name("")), NO_ELEMENT, t -> t.send(10));
        Given many = all(one, street("b", 50, 'y', false), doors(39, 1, 5, 'l'), gone(0), first(1, "v"), first(1, "w"), first(1, "x"),
                first(1, "y"), first(1, "z"));
        taken("with 196 old ones", many, t -> t.olds(), 196);
        refused("lost, with 199 behind it", all(many, gone(1, 2, 3, 4), name("a")), UNSUPPORTED, t -> t.send(10));
        refused("forgotten, with 200 behind it", all(many, gone(1, 2, 3, 4, 5), name("a")), NO_ELEMENT, t -> t.send(10));
    }

    private static void lost() {
        says("Promise 20", "Throws `UnsupportedOperationException` if it is lost");
        Given two = all(streets(2), second(0, "z"), doors(3, 0, 5, 'l'));
        refused("taken away", all(two, gone(0), name("a")), UNSUPPORTED, t -> t.send(10));
        refused("taken away, the second name", all(two, gone(0), name("z")), UNSUPPORTED, t -> t.send(10));
        taken("merged", all(two, t -> t.merge(0, 1)), t -> sent(t, "a", 10), 1);
        refused("merged into one that is taken away", all(two, t -> t.merge(0, 1), gone(1), name("a")), UNSUPPORTED, t -> t.send(10));
        taken("merged into one that is merged", all(two, t -> t.merge(0, 1), t -> t.merge(1, 2)), t -> sent(t, "a", 10), 2);
        taken("taken away, but the address is another door's", all(two, way(0, 's', false), gone(0), door(0, 0, 'l')),
                t -> sent(t, "a", 10), 3);
    }

    // ---- old addresses ----

    private static void untils() {
        says("Promise 21", "Returns on which day an address, with the typed name, became old last.");
        says("Promise 21", "Returns the day.");
        Given old = all(street("a", 50, 's', false), second(0, "z"), door(0, 5, 'l'), t -> t.day(9), gone(0));
        taken("once", old, t -> until(t, "a", 10), 9);
        taken("by the second name", old, t -> until(t, "z", 10), 9);
        taken("on the day 0", all(streets(1), door(0, 5, 'l'), gone(0), t -> t.day(9)), t -> until(t, "a", 10), 0);
        taken("not yet again", all(old, t -> t.day(1), door(0, 5, 'l')), t -> until(t, "a", 10), 9);
        taken("again", all(old, t -> t.day(1), door(0, 5, 'l'), gone(1), t -> t.day(5)), t -> until(t, "a", 10), 10);
        taken("again by one name", all(old, t -> t.day(1), door(0, 5, 'l'), second(0, "")), t -> until(t, "z", 10), 10);
        taken("not again by the other name", all(old, t -> t.day(1), door(0, 5, 'l'), second(0, "")), t -> until(t, "a", 10), 9);
        taken("the name stays typed", old, t -> (int) until(t, "a", 10) + t.wipe(), 10);
        says("Promise 21", CODE);
        Given ten = all(street("a", 999, 'm', false), doors(10, 0, 999, 'r'), t -> t.day(4), first(0, "b"));
        for (int letter = 0; letter <= 9; letter++) {
            int code = 2000 + letter;
            taken("code " + code, ten, t -> until(t, "a", code), 4);
        }
    }

    private static void untilsNone() {
        says("Promise 21", "Throws `NoSuchElementException` if none did");
        Given old = all(street("a", 50, 'm', false), second(0, "z"), door(0, 5, 'l'), first(0, "c"));
        taken("one did", old, t -> until(t, "a", 10), 0);
        for (int code : NO_CODES) {
            refused("code " + code, all(old, name("a")), NO_ELEMENT, t -> t.until(code));
        }
        refused("an address now", all(old, name("c")), NO_ELEMENT, t -> t.until(10));
        refused("the second name", all(old, name("z")), NO_ELEMENT, t -> t.until(10));
        refused("another name", all(old, name("b")), NO_ELEMENT, t -> t.until(10));
        refused("nothing typed", all(old, name("")), NO_ELEMENT, t -> t.until(10));
        refused("nothing typed, no second name", all(old, second(0, ""), gone(0), name("")), NO_ELEMENT, t -> t.until(10));
    }

    private static void olds() {
        says("Promise 22", "Returns how many old addresses are kept.");
        says("Promise 22", "Returns how many.");
        Given many = all(streets(1), doors(40, 0, 5, 'l'), first(0, "v"), first(0, "w"), first(0, "x"), first(0, "y"));
        taken("none", nothing(), t -> t.olds(), 0);
        taken("none of doors that stand", all(streets(1), doors(40, 0, 5, 'l')), t -> t.olds(), 0);
        taken("one", all(streets(1), door(0, 5, 'l'), gone(0)), t -> t.olds(), 1);
        taken("two of the same address", all(street("a", 50, 's', false), door(0, 5, 'l'), gone(0), door(0, 5, 'l'), gone(1)),
                t -> t.olds(), 2);
        taken("160", many, t -> t.olds(), 160);
        taken("199", all(many, t -> goneTo(t, 39)), t -> t.olds(), 199);
        taken("200", all(many, t -> goneTo(t, 40)), t -> t.olds(), 200);
        taken("200 of 201", all(many, t -> goneTo(t, 1), first(0, "z"), gone(1)), t -> t.olds(), 200);
    }

    private static void goneTo(StreetNamer town, int count) {
        for (int door = 0; door < count; door++) {
            town.remove(door);
        }
    }
}
