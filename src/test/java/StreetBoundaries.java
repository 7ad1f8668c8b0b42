/** The boundary cases of the promises of a new object, letters that are typed, and streets. */
final class StreetBoundaries extends Boundary {
    private StreetBoundaries() {
    }

    static void run() {
        newObject();
        typing();
        typingTooMany();
        wiping();
        streetAdded();
        streetArguments();
        streetNames();
        streetNumbers();
        renaming();
        renamingNames();
        translating();
        translatingNames();
        letters();
        lettersThatAreNone();
        ways();
        renumbering();
        renumberingRefused();
        joining();
        joiningLengths();
        joiningRefused();
        streetsStanding();
    }

    private static void newObject() {
        says("Promise 1", "Creates a town without streets and doors, on the day 0.");
        taken("streets", nothing(), t -> t.streets(), 0);
        taken("nothing typed", nothing(), t -> t.wipe(), 0);
        taken("old addresses", nothing(), t -> t.olds(), 0);
        taken("a day behind the day 0", nothing(), t -> t.day(1), 1);
        taken("an old address of the day 0", all(streets(1), door(0, 5, 'l'), gone(0)), t -> until(t, "a", 10), 0);
        taken("the sum", nothing(), t -> t.checksum(), 31L * 7);
        taken("whether it is true", nothing(), t -> t.isTrue(), true);
        refused("a street", nothing(), INDEX, t -> t.doors(0));
        refused("a door", nothing(), INDEX, t -> t.isGone(0));
        refused("an address", nothing(), NO_ELEMENT, t -> t.find(0));
        refused("a letter", nothing(), NO_ELEMENT, t -> t.send(0));
        refused("an old address", nothing(), NO_ELEMENT, t -> t.until(0));
    }

    // ---- typing ----

    private static void typing() {
        says("Promise 2", "Types a letter of a name.");
        says("Promise 2", "`letter`: a small letter");
        says("Promise 2", "Throws `IllegalArgumentException` if it is none");
        for (char letter = 'a'; letter <= 'z'; letter++) {
            char typed = letter;
            taken("type " + letter, all(name("m"), t -> t.type(typed), t -> t.street(10, 's', false)),
                    t -> t.letter(0, false, 1), typed);
        }
        for (char letter : new char[] {'`', '{', 'A', 'Z', '@', '[', '0', ' ', 0, (char) 225, (char) ('a' + 256), (char) 0xFFFF}) {
            refused("type " + (int) letter, name("abcdef"), ARGUMENT, t -> t.type(letter));
        }
        says("Promise 2", "Returns how many are typed.");
        for (int count = 1; count <= 7; count++) {
            taken("letter " + count, times(count - 1, t -> t.type('a')), t -> t.type('b'), count);
        }
        taken("behind a wipe", all(name("abcdefg"), t -> t.wipe()), t -> t.type('b'), 1);
        taken("behind a street", street("abcdefg", 10, 's', false), t -> t.type('b'), 1);
    }

    private static void typingTooMany() {
        says("Promise 2", "Throws `IllegalStateException` if there are 7");
        taken("there are 6", name("abcdef"), t -> t.type('g'), 7);
        refused("there are 7", name("abcdefg"), STATE, t -> t.type('h'));
        refused("there are 7, that are in use", all(street("zzzzzzz", 10, 's', false), name("zzzzzzz")), STATE, t -> t.type('z'));
        taken("there are 7 no more", all(name("abcdefg"), t -> t.wipe()), t -> t.type('h'), 1);
    }

    private static void wiping() {
        says("Promise 3", "Takes the typed letters away.");
        refused("a street behind that", all(name("ab"), t -> t.wipe()), UNSUPPORTED, t -> t.street(10, 's', false));
        taken("a name behind that", all(name("ab"), t -> t.wipe(), t -> t.type('c'), t -> t.street(10, 's', false)),
                t -> Check.nameOf(t, 0, false), "c");
        says("Promise 3", "Returns how many there were.");
        for (int count = 0; count <= 7; count++) {
            taken(count + " letters", times(count, t -> t.type('z')), t -> t.wipe(), count);
            taken(count + " letters, then none", all(times(count, t -> t.type('a')), t -> t.wipe()), t -> t.wipe(), 0);
        }
    }

    // ---- streets ----

    private static void streetAdded() {
        says("Promise 4", "Adds a street with the typed name, which is typed no more then.");
        taken("the name", street("zya", 10, 's', false), t -> Check.nameOf(t, 0, false), "zya");
        taken("nothing typed then", street("zya", 10, 's', false), t -> t.wipe(), 0);
        taken("no doors", street("zya", 10, 's', false), t -> t.doors(0), 0);
        taken("typed still behind a refused one", all(name("zya"), t -> Check.outcome(() -> t.street(9, 's', false))), t -> t.wipe(), 3);
        says("Promise 4", "`isBack`: whether it goes back");
        taken("it does not", street("a", 95, 'm', false), t -> comes(t, 0, 0, 'l'), 10);
        taken("it does", street("a", 95, 'm', true), t -> comes(t, 0, 0, 'l'), 190);
        says("Promise 4", "Returns its number.");
        taken("the first one", name("a"), t -> t.street(10, 's', false), 0);
        taken("the second one", all(streets(1), name("z")), t -> t.street(10, 's', false), 1);
        taken("behind one that is gone", all(streets(2), t -> t.join(0, 1), name("z")), t -> t.street(10, 's', false), 2);
    }

    private static void streetArguments() {
        says("Promise 4", "`length`: the length");
        says("Promise 4", "`way`: 's', 'm' or 'y'");
        says("Promise 4", "Throws `IllegalArgumentException` if there is no such way, or the length is out of range");
        for (char way : new char[] {'s', 'm', 'y'}) {
            taken("the way " + way, name("a"), t -> t.street(10, way, false), 0);
            taken("the way " + way + " is told", street("a", 10, way, false), t -> t.way(0, 's', false), way);
        }
        for (char way : new char[] {'r', 't', 'l', 'n', 'x', 'z', 'S', 'M', 'Y', 0, (char) ('m' + 256)}) {
            refused("the way " + (int) way, name("a"), ARGUMENT, t -> t.street(10, way, false));
        }
        for (int length : new int[] {10, 999}) {
            taken("the length " + length, name("a"), t -> t.street(length, 's', false), 0);
        }
        for (int length : new int[] {9, 1000, 0, -10, -999, LEAST, LEAST + 10, GREATEST}) {
            refused("the length " + length, name("a"), ARGUMENT, t -> t.street(length, 's', false));
        }
    }

    private static void streetNames() {
        says("Promise 4", "Throws `UnsupportedOperationException` if nothing is typed, or the name is in use");
        refused("nothing", nothing(), UNSUPPORTED, t -> t.street(10, 's', false));
        taken("a letter", name("a"), t -> t.street(10, 's', false), 0);
        Given two = all(street("a", 10, 's', false), second(0, "b"));
        refused("the first name", all(two, name("a")), UNSUPPORTED, t -> t.street(10, 's', false));
        refused("the second name", all(two, name("b")), UNSUPPORTED, t -> t.street(10, 's', false));
        taken("another name", all(two, name("ab")), t -> t.street(10, 's', false), 1);
        taken("a first name that is in use no more", all(two, first(0, "c"), name("a")), t -> t.street(10, 's', false), 1);
        taken("a second name that is in use no more", all(two, second(0, "c"), name("b")), t -> t.street(10, 's', false), 1);
    }

    private static void streetNumbers() {
        says("Promise 4", "Throws `IllegalStateException` if there are 12, those that are gone counted");
        taken("there are 11", all(streets(11), name("z")), t -> t.street(10, 's', false), 11);
        refused("there are 12", all(streets(12), name("z")), STATE, t -> t.street(10, 's', false));
        Given gone = all(streets(11), t -> t.join(0, 10), t -> t.join(0, 9));
        taken("there are 9 and 2 are gone", all(gone, name("z")), t -> t.street(10, 's', false), 11);
        refused("there are 10 and 2 are gone", all(gone, street("y", 10, 's', false), name("z")), STATE, t -> t.street(10, 's', false));
    }

    // ---- names ----

    private static void renaming() {
        says("Promise 5", "Gives a street the typed name, which is typed no more then, in place of its first one.");
        Given one = all(streets(2), second(1, "z"), door(1, 5, 'l'), door(1, 5, 'l'));
        Given named = all(one, first(1, "abcdefg"));
        taken("the name", named, t -> Check.nameOf(t, 1, false), "abcdefg");
        taken("the second name", named, t -> Check.nameOf(t, 1, true), "z");
        taken("nothing typed then", named, t -> t.wipe(), 0);
        taken("a door by the name", named, t -> found(t, "abcdefg", 20), 1);
        refused("no door by the name before", all(named, name("b")), NO_ELEMENT, t -> t.find(20));
        says("Promise 5", "Returns how many old addresses there are.");
        taken("two", all(one, name("n")), t -> t.rename(1), 2);
        taken("two, and none more", all(one, first(1, "n"), name("m")), t -> t.rename(0), 2);
        taken("a street without doors", all(streets(1), name("n")), t -> t.rename(0), 0);
        Given most = all(streets(1), doors(40, 0, 5, 'l'), first(0, "v"), first(0, "w"), first(0, "x"));
        taken("160", all(most, name("y")), t -> t.rename(0), 160);
        taken("200", all(most, first(0, "y"), name("z")), t -> t.rename(0), 200);
        taken("200 and no more", all(most, first(0, "y"), first(0, "z"), name("v")), t -> t.rename(0), 200);
        says("Promise 5", "Throws `IndexOutOfBoundsException` if there is no such street any more");
        asksStreet((t, street) -> t.rename(street));
    }

    private static void renamingNames() {
        says("Promise 5", "Throws `UnsupportedOperationException` if nothing is typed, or the name is in use");
        Given two = all(streets(2), second(0, "z"), second(1, "y"), door(0, 5, 'l'));
        refused("nothing", all(two, name("")), UNSUPPORTED, t -> t.rename(0));
        taken("a letter", all(two, name("n")), t -> t.rename(0), 1);
        for (String name : new String[] {"a", "b", "y", "z"}) {
            refused("the name " + name, all(two, name(name)), UNSUPPORTED, t -> t.rename(0));
        }
        taken("a name in use no more", all(two, second(1, "x"), name("y")), t -> t.rename(0), 1);
        taken("the name before", all(two, first(0, "n"), name("a")), t -> t.rename(0), 2);
    }

    private static void translating() {
        says("Promise 6", "Gives a street the typed name, which is typed no more then, as its second one, in place of another second one;");
        Given one = all(streets(2), door(1, 5, 'l'), door(1, 5, 'l'));
        Given named = all(one, second(1, "abcdefg"));
        taken("in place of none", named, t -> Check.nameOf(t, 1, true), "abcdefg");
        taken("in place of another", all(named, second(1, "z")), t -> Check.nameOf(t, 1, true), "z");
        taken("the first name", named, t -> Check.nameOf(t, 1, false), "b");
        taken("nothing typed then", named, t -> t.wipe(), 0);
        taken("a door by the name", named, t -> found(t, "abcdefg", 20), 1);
        says("Promise 6", "with nothing typed it has none then.");
        refused("none", all(named, second(1, "")), NO_ELEMENT, t -> t.letter(1, true, 0));
        taken("none, the first name", all(named, second(1, "")), t -> Check.nameOf(t, 1, false), "b");
        taken("none in place of none", all(one, name("")), t -> t.translate(1), 0);
        taken("none in place of none twice", all(one, second(0, ""), name("")), t -> t.translate(1), 0);
        says("Promise 6", "Returns how many old addresses there are.");
        taken("in place of none", all(one, name("n")), t -> t.translate(1), 0);
        taken("in place of another", all(named, name("n")), t -> t.translate(1), 2);
        taken("none in place of another", all(named, name("")), t -> t.translate(1), 2);
        Given most = all(streets(1), doors(40, 0, 5, 'l'), second(0, "v"), second(0, "w"), second(0, "x"), second(0, "y"));
        taken("160", all(most, name("z")), t -> t.translate(0), 160);
        taken("200", all(most, second(0, "z"), name("")), t -> t.translate(0), 200);
        taken("200 and no more", all(most, second(0, "z"), second(0, "v"), name("w")), t -> t.translate(0), 200);
        says("Promise 6", "Throws `IndexOutOfBoundsException` if there is no such street any more");
        asksStreet((t, street) -> t.translate(street));
    }

    private static void translatingNames() {
        says("Promise 6", "Throws `UnsupportedOperationException` if the name is in use");
        Given two = all(streets(2), second(0, "z"), second(1, "y"), door(0, 5, 'l'));
        for (String name : new String[] {"a", "b", "y", "z"}) {
            refused("the name " + name, all(two, name(name)), UNSUPPORTED, t -> t.translate(0));
        }
        taken("another name", all(two, name("n")), t -> t.translate(0), 1);
        taken("nothing", all(two, name("")), t -> t.translate(0), 1);
        taken("a name in use no more", all(two, first(1, "x"), name("b")), t -> t.translate(0), 1);
    }

    private static void letters() {
        says("Promise 7", "Returns a letter of a name.");
        says("Promise 7", "`isSecond`: whether the second name is asked");
        Given two = all(street("abcdefg", 10, 's', false), second(0, "zy"), street("x", 10, 's', false));
        taken("it is not", two, t -> t.letter(0, false, 1), 'b');
        taken("it is", two, t -> t.letter(0, true, 1), 'y');
        says("Promise 7", "Returns the letter.");
        for (int i = 0; i < 7; i++) {
            int index = i;
            taken("letter " + i, two, t -> t.letter(0, false, index), (char) ('a' + i));
        }
        taken("the only letter", two, t -> t.letter(1, false, 0), 'x');
        says("Promise 7", "Throws `IndexOutOfBoundsException` if there is no such street any more");
        asksStreet((t, street) -> t.letter(street, false, 0));
        asksStreet((t, street) -> t.letter(street, true, -1));
    }

    private static void lettersThatAreNone() {
        says("Promise 7", "`index`: the place, from 0");
        says("Promise 7", "Throws `NoSuchElementException` if there is none");
        Given two = all(street("abcdefg", 10, 's', false), second(0, "zy"), street("x", 10, 's', false));
        taken("the first letter", two, t -> t.letter(0, false, 0), 'a');
        taken("the last letter of 7", two, t -> t.letter(0, false, 6), 'g');
        taken("the last letter of 2", two, t -> t.letter(0, true, 1), 'y');
        for (int index : new int[] {-1, 7, 8, 12, LEAST, GREATEST}) {
            refused("letter " + index + " of 7", two, NO_ELEMENT, t -> t.letter(0, false, index));
        }
        for (int index : new int[] {-1, 2, 6}) {
            refused("letter " + index + " of 2", two, NO_ELEMENT, t -> t.letter(0, true, index));
        }
        refused("letter 1 of 1", two, NO_ELEMENT, t -> t.letter(1, false, 1));
        refused("letter 0 of no second name", two, NO_ELEMENT, t -> t.letter(1, true, 0));
        refused("letter 0 of no second name any more", all(two, second(0, "")), NO_ELEMENT, t -> t.letter(0, true, 0));
    }

    // ---- numbering ----

    private static void ways() {
        says("Promise 8", "Tells another way of numbering, for doors that come, and for renumbering.");
        Given one = all(street("a", 95, 's', false), door(0, 5, 'l'), door(0, 15, 'l'), way(0, 'm', true));
        taken("doors that are there", one, t -> addresses(t), "10 30");
        taken("a door that comes", one, t -> comes(t, 0, 5, 'l'), 190);
        taken("renumbering", all(one, t -> t.renumber(0)), t -> addresses(t), "190 170");
        says("Promise 8", "`isBack`: whether it goes back");
        taken("it does not", all(one, way(0, 'm', false)), t -> comes(t, 0, 85, 'l'), 170);
        taken("it does", all(one, way(0, 'm', true)), t -> comes(t, 0, 85, 'l'), 31);
        says("Promise 8", "Returns the way before.");
        says("Promise 8", "`way`: 's', 'm' or 'y'");
        for (char way : new char[] {'s', 'm', 'y'}) {
            taken("the way of a street, " + way, street("a", 10, way, true), t -> t.way(0, 's', false), way);
            taken("the way told before, " + way, all(streets(1), way(0, way, true)), t -> t.way(0, 's', false), way);
        }
        says("Promise 8", "Throws `IndexOutOfBoundsException` if there is no such street any more");
        asksStreet((t, street) -> t.way(street, 's', true));
        says("Promise 8", "Throws `IllegalArgumentException` if there is no such way");
        for (char way : new char[] {'r', 't', 'l', 'n', 'x', 'z', 'S', 'M', 'Y', 0, (char) ('y' + 256), (char) 0xFFFF}) {
            refused("the way " + (int) way, all(street("a", 95, 'm', false), door(0, 5, 'l')), ARGUMENT, t -> t.way(0, way, true));
        }
    }

    private static void renumbering() {
        says("Promise 13", "Renumbers a street.");
        Given three = all(streets(2), doors(3, 0, 5, 'l'), doors(2, 1, 5, 'l'), gone(0, 3));
        taken("the street", all(three, t -> t.renumber(0)), t -> addresses(t), "- 10 20 - 20");
        taken("the other street", all(three, t -> t.renumber(1)), t -> addresses(t), "- 20 30 - 10");
        says("Promise 13", "Returns how many doors have another address there.");
        taken("all", three, t -> t.renumber(0), 2);
        taken("none then", all(three, t -> t.renumber(0)), t -> t.renumber(0), 0);
        taken("no doors", all(three, gone(4)), t -> t.renumber(1), 0);
        taken("all but one", all(street("a", 50, 'y', false), doors(40, 0, 5, 'l'), way(0, 's', false)), t -> t.renumber(0), 39);
        taken("another letter only", all(street("a", 50, 'm', false), doors(2, 0, 5, 'l'), gone(0)), t -> t.renumber(0), 1);
        taken("corners, too", all(three, corner(4, 0, 5, 'l')), t -> t.renumber(0), 3);
        says("Promise 13", "Throws `IndexOutOfBoundsException` if there is no such street any more");
        asksStreet((t, street) -> t.renumber(street));
    }

    private static void renumberingRefused() {
        says("Promise 13", "Throws `UnsupportedOperationException` if it is refused");
        Given ten = all(street("a", 50, 'y', false), second(0, "b"), doors(10, 0, 5, 'l'));
        taken("ten by metres", all(ten, way(0, 'm', false)), t -> t.renumber(0), 9);
        refused("eleven by metres", all(ten, door(0, 9, 'l'), way(0, 'm', false)), UNSUPPORTED, t -> t.renumber(0));
        refused("eleven by metres, behind others that could come", all(ten, door(0, 9, 'r'), door(0, 0, 'l'), way(0, 'm', false)),
                UNSUPPORTED, t -> t.renumber(0));
        taken("eleven by steps", all(ten, door(0, 9, 'l'), way(0, 's', false)), t -> t.renumber(0), 10);
        taken("eleven by building", all(ten, door(0, 9, 'l')), t -> t.renumber(0), 0);
    }

    // ---- joining ----

    private static void joining() {
        says("Promise 14", "Joins a street to the end of another one.");
        says("Promise 14", "`street`: the one that stays");
        says("Promise 14", "`other`: the one that is gone then");
        Given two = all(streets(2), door(0, 50, 'l'), door(1, 0, 'l'), door(1, 7, 'l'));
        taken("the doors", all(two, t -> t.join(0, 1)), t -> t.doors(0), 3);
        taken("at its end", all(two, t -> t.join(0, 1)), t -> t.steps(0), 7);
        refused("the other one", all(two, t -> t.join(0, 1)), INDEX, t -> t.doors(1));
        refused("the first one, joined to the second one", all(two, t -> t.join(1, 0)), INDEX, t -> t.doors(0));
        taken("that at its end", all(two, t -> t.join(1, 0)), t -> t.steps(1), 100);
        says("Promise 14", "Throws `IndexOutOfBoundsException` if there is no such street any more, for either");
        asksStreet((t, street) -> t.join(street, 0));
        asksStreet((t, street) -> t.join(0, street));
        asksStreet((t, street) -> t.join(street, street));
    }

    private static void joiningLengths() {
        says("Promise 14", "Returns the length then.");
        taken("the least one", all(street("a", 10, 's', false), street("b", 10, 's', false)), t -> t.join(1, 0), 20);
        taken("11 of 12 streets joined", all(streets(12), t -> joinedFrom(t, 1, 11)), t -> t.join(0, 11), 600);
        says("Promise 14", "Throws `IllegalArgumentException` if both are the same, or it would be longer than 999");
        Given two = all(street("a", 10, 's', false), street("b", 989, 's', false), street("c", 990, 's', false),
                street("d", 999, 's', false), door(1, 5, 'l'));
        refused("both are the same", two, ARGUMENT, t -> t.join(0, 0));
        taken("988 and 11", all(street("a", 11, 's', false), street("b", 988, 's', false)),
                t -> t.join(0, 1), 999);
        taken("999", two, t -> t.join(0, 1), 999);
        taken("999, the other way round", two, t -> t.join(1, 0), 999);
        refused("1000", two, ARGUMENT, t -> t.join(0, 2));
        refused("1000, the other way round", two, ARGUMENT, t -> t.join(2, 0));
        refused("1998, one behind a join", all(two, t -> t.join(0, 1)), ARGUMENT, t -> t.join(0, 3));
        refused("1998", all(two, street("e", 999, 's', false)), ARGUMENT, t -> t.join(3, 4));
    }

    private static void joinedFrom(StreetNamer town, int from, int to) {
        for (int street = from; street < to; street++) {
            town.join(0, street);
        }
    }

    private static void joiningRefused() {
        says("Promise 14", "Throws `UnsupportedOperationException` if a door could not come");
        Given nine = all(street("a", 15, 'm', false), second(0, "x"), street("b", 15, 'y', false), doors(9, 0, 15, 'l'), door(1, 0, 'r'),
                door(1, 3, 'l'));
        taken("with the last letter", nine, t -> t.join(0, 1), 30);
        taken("the last letter", all(nine, t -> t.join(0, 1)), t -> t.address(10, false), 39);
        refused("without one", all(nine, door(1, 4, 'l')), UNSUPPORTED, t -> t.join(0, 1));
        taken("without one, but on the other side", all(nine, door(1, 4, 'r')), t -> t.join(0, 1), 30);
        taken("without one, but farther on", all(nine, door(1, 5, 'l')), t -> t.join(0, 1), 30);
        taken("without one, but by building", all(nine, door(1, 4, 'l'), way(0, 'y', false)), t -> t.join(0, 1), 30);
        taken("without one, but by steps", all(nine, door(1, 4, 'l'), way(0, 's', false)), t -> t.join(0, 1), 30);
        Given steps = all(street("a", 15, 's', true), street("b", 15, 'y', false), door(0, 5, 'l'));
        taken("ahead of 1 with the last letter", all(steps, doors(9, 1, 5, 'l')), t -> t.join(0, 1), 30);
        refused("ahead of 1 without one", all(steps, doors(10, 1, 5, 'l')), UNSUPPORTED, t -> t.join(0, 1));
    }

    private static void streetsStanding() {
        says("Promise 27", "Returns how many streets there are, those that are gone aside.");
        says("Promise 27", "Returns how many.");
        taken("none", nothing(), t -> t.streets(), 0);
        taken("one", streets(1), t -> t.streets(), 1);
        taken("twelve", streets(12), t -> t.streets(), 12);
        taken("eleven, one being gone", all(streets(12), t -> t.join(3, 7)), t -> t.streets(), 11);
        taken("one, eleven being gone", all(streets(12), t -> joinedFrom(t, 1, 12)), t -> t.streets(), 1);
    }
}
