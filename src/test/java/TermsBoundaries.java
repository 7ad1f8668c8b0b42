/** The boundary cases of "Terms": streets, doors and addresses. */
final class TermsBoundaries extends Boundary {
    private static final String TERMS = "Terms";

    private TermsBoundaries() {
    }

    static void run() {
        calls();
        streetsInAll();
        lengths();
        lettersOfNames();
        secondNames();
        namesAlike();
        namesFreeAgain();
        waysOfNumbering();
        beginnings();
        doorsInAll();
        metres();
        sides();
        placesOfDoors();
        numbersOfDoorsGone();
        farther();
        fartherByNumbers();
        codes();
        addressesOfOneDoor();
        addressAtOnce();
        byMetres();
        byMetresWithLetters();
        byBuilding();
        byBuildingSinceRenumbered();
        sidesBySteps();
        numbersGivenBySteps();
        numbersBehindTheLast();
        numbersBeforeTheNext();
        numberOfTheLast();
        numberOfTheNext();
        lettersBySteps();
        doorsWithoutAddressYet();
        noLettersLeft();
    }

    private static void calls() {
        says("What it is", "An object is used for at most 512 calls after it has been made; what later calls answer is free.");
        taken("the 512th call", times(511, t -> t.day(9999)), t -> t.day(9999), 512 * 9999);
        taken("the 512th call, after wipes and letters", times(255, all(t -> t.type('a'), t -> t.wipe())),
                t -> t.type('a') + t.wipe(), 2);
    }

    // ---- streets ----

    private static void streetsInAll() {
        says(TERMS, "At most 12 are numbered from 0,");
        taken("the first one", name("z"), t -> t.street(10, 's', false), 0);
        taken("the last one", all(streets(11), name("z")), t -> t.street(10, 's', false), 11);
        refused("one more", all(streets(12), name("z")), STATE, t -> t.street(10, 's', false));
    }

    private static void lengths() {
        says(TERMS, "each with a length of 10 to 999 metres,");
        for (int length : new int[] {10, 11, 998, 999}) {
            taken("a street of " + length, name("a"), t -> t.street(length, 'm', true), 0);
            taken("its end, " + length, street("a", length, 'm', true), t -> comes(t, 0, length, 'l'), 10);
            refused("behind its end, " + length, street("a", length, 'm', true), ARGUMENT, t -> t.door(0, length + 1, 'l'));
        }
        for (int length : new int[] {9, 1000, 0, -1, -10, LEAST, GREATEST, 65536 + 10}) {
            refused("a street of " + length, name("a"), ARGUMENT, t -> t.street(length, 'm', true));
        }
    }

    private static void lettersOfNames() {
        says(TERMS, "and a name of 1 to 7 small letters, which is typed;");
        for (String name : new String[] {"a", "z", "az", "abcdefg", "zzzzzzz", "aaaaaaa"}) {
            taken("the name " + name, street(name, 10, 's', false), t -> Check.nameOf(t, 0, false), name);
        }
        refused("no letter", nothing(), UNSUPPORTED, t -> t.street(10, 's', false));
        refused("an 8th letter", name("abcdefg"), STATE, t -> t.type('h'));
        for (char letter : new char[] {'`', '{', 'A', 'Z', '0', 0, (char) 0x161, (char) 0xFFFF}) {
            refused("the letter " + (int) letter, name("ab"), ARGUMENT, t -> t.type(letter));
        }
    }

    private static void secondNames() {
        says(TERMS, "it can have a second name.");
        Given one = street("a", 10, 's', false);
        refused("none at first", one, NO_ELEMENT, t -> t.letter(0, true, 0));
        for (String name : new String[] {"z", "gfedcba"}) {
            taken("the name " + name, all(one, second(0, name)), t -> Check.nameOf(t, 0, true), name);
            taken("the first one stays beside " + name, all(one, second(0, name)), t -> Check.nameOf(t, 0, false), "a");
        }
        refused("none again", all(one, second(0, "z"), second(0, "")), NO_ELEMENT, t -> t.letter(0, true, 0));
    }

    private static void namesAlike() {
        says(TERMS, "No two of all names in use are alike.");
        Given four = all(street("a", 10, 's', false), second(0, "bc"), street("cb", 10, 's', false), second(1, "abcdefg"));
        for (String name : new String[] {"a", "bc", "cb", "abcdefg"}) {
            Given typed = all(four, name(name));
            refused("a street " + name, typed, UNSUPPORTED, t -> t.street(10, 's', false));
            for (int street = 0; street < 2; street++) {
                int asked = street;
                refused("rename " + asked + " to " + name, typed, UNSUPPORTED, t -> t.rename(asked));
                refused("translate " + asked + " to " + name, typed, UNSUPPORTED, t -> t.translate(asked));
            }
        }
        for (String name : new String[] {"b", "aa", "ba", "bcb", "abcdef", "abcdefh", "bbcdefg"}) {
            taken("a street " + name, all(four, name(name)), t -> t.street(10, 's', false), 2);
            taken("rename to " + name, all(four, name(name)), t -> t.rename(1), 0);
            taken("translate to " + name, all(four, name(name)), t -> t.translate(0), 0);
        }
    }

    private static void namesFreeAgain() {
        says(TERMS, "No two of all names in use are alike.");
        Given two = all(street("a", 10, 's', false), second(0, "b"), street("c", 10, 's', false), second(1, "d"));
        taken("a first name that is gone", all(two, first(0, "e"), name("a")), t -> t.street(10, 's', false), 2);
        taken("a second name that is replaced", all(two, second(0, "e"), name("b")), t -> t.street(10, 's', false), 2);
        taken("a second name that is taken away", all(two, second(0, ""), name("b")), t -> t.rename(0), 0);
        taken("a name by which the street went before", all(two, first(0, "e"), name("a")), t -> t.translate(0), 0);
        Given joined = all(two, t -> t.join(0, 1));
        for (String name : new String[] {"c", "d"}) {
            taken("a name of a street that is gone, " + name, all(joined, name(name)), t -> t.street(10, 's', false), 2);
        }
        for (String name : new String[] {"a", "b"}) {
            refused("a name of the one that stays, " + name, all(joined, name(name)), UNSUPPORTED, t -> t.street(10, 's', false));
        }
    }

    private static void waysOfNumbering() {
        says(TERMS, "A street has a way of numbering, 's' by steps, 'm' by metres or 'y' by building,");
        char[] ways = {'s', 'm', 'y'};
        int[] codes = {20, 60, 10};
        for (int i = 0; i < ways.length; i++) {
            char way = ways[i];
            taken("numbered by " + way, street("a", 50, way, false), t -> comes(t, 0, 25, 'r'), codes[i]);
            taken("told " + way, all(streets(1), way(0, way, false)), t -> comes(t, 0, 25, 'r'), codes[i]);
        }
        for (char way : new char[] {'r', 't', 'l', 'n', 'x', 'z', 'S', 'M', 'Y', 0, (char) ('s' + 256), (char) 0xFFFF}) {
            refused("a street by " + (int) way, name("a"), ARGUMENT, t -> t.street(50, way, false));
            refused("told " + (int) way, street("a", 50, 'm', false), ARGUMENT, t -> t.way(0, way, true));
        }
    }

    private static void beginnings() {
        says(TERMS, "and begins at its metre 0, or, if it goes back, at its other end.");
        int[] metres = {0, 9, 10, 85, 86, 95};
        int[] ahead = {10, 10, 30, 170, 170, 190};
        int[] back = {190, 170, 170, 30, 10, 10};
        for (int i = 0; i < metres.length; i++) {
            int metre = metres[i];
            taken("metre " + metre, street("a", 95, 'm', false), t -> comes(t, 0, metre, 'l'), ahead[i]);
            taken("metre " + metre + ", going back", street("a", 95, 'm', true), t -> comes(t, 0, metre, 'l'), back[i]);
        }
    }

    // ---- doors ----

    private static void doorsInAll() {
        says(TERMS, "At most 40 are numbered from 0,");
        taken("the first one", streets(2), t -> t.door(1, 5, 'l'), 0);
        taken("the last one", all(streets(2), doors(39, 0, 5, 'l')), t -> t.door(1, 5, 'l'), 39);
        refused("one more", all(streets(2), doors(40, 0, 5, 'l')), STATE, t -> t.door(0, 5, 'l'));
        refused("one more, on another street", all(streets(2), doors(40, 0, 5, 'l')), STATE, t -> t.door(1, 5, 'l'));
    }

    private static void metres() {
        says(TERMS, "each at a metre of a street, 0 to its length,");
        Given two = all(streets(2), door(1, 5, 'l'));
        for (int metre : new int[] {0, 1, 49, 50}) {
            taken("a door at " + metre, two, t -> t.door(0, metre, 'l'), 1);
            taken("a corner at " + metre, two, t -> t.corner(0, 0, metre, 'l'), 10);
        }
        for (int metre : new int[] {-1, 51, 999, LEAST, GREATEST}) {
            refused("a door at " + metre, two, ARGUMENT, t -> t.door(0, metre, 'l'));
            refused("a corner at " + metre, two, ARGUMENT, t -> t.corner(0, 0, metre, 'l'));
        }
        Given joined = all(two, t -> t.join(0, 1));
        taken("the length after a join", joined, t -> t.door(0, 100, 'r'), 1);
        refused("behind that", joined, ARGUMENT, t -> t.door(0, 101, 'r'));
    }

    private static void sides() {
        says(TERMS, "on a side, 'l' or 'r',");
        Given two = all(street("a", 50, 'm', false), street("b", 50, 'm', false), door(1, 5, 'l'));
        taken("a door on the left", two, t -> comes(t, 0, 5, 'l'), 10);
        taken("a door on the right", two, t -> comes(t, 0, 5, 'r'), 20);
        taken("a corner on the left", two, t -> t.corner(0, 0, 5, 'l'), 10);
        taken("a corner on the right", two, t -> t.corner(0, 0, 5, 'r'), 20);
        for (char side : new char[] {'k', 'm', 'q', 's', 'L', 'R', 0, (char) ('l' + 256), (char) 0xFFFF}) {
            refused("a door on " + (int) side, two, ARGUMENT, t -> t.door(0, 5, side));
            refused("a corner on " + (int) side, two, ARGUMENT, t -> t.corner(0, 0, 5, side));
        }
    }

    private static void placesOfDoors() {
        says(TERMS, "and perhaps, as a corner, at another one, too.");
        Given one = all(streets(3), door(0, 5, 'l'), door(1, 5, 'l'));
        refused("no other street at first", one, NO_ELEMENT, t -> t.streetOf(0, true));
        taken("another street", one, t -> t.corner(0, 1, 7, 'l') + t.streetOf(0, true), 20 + 1);
        taken("the first one stays", all(one, corner(0, 1, 7, 'l')), t -> t.streetOf(0, false), 0);
        refused("its own street", one, UNSUPPORTED, t -> t.corner(0, 0, 7, 'l'));
        refused("a third street", all(one, corner(0, 1, 7, 'l')), UNSUPPORTED, t -> t.corner(0, 2, 7, 'l'));
        refused("its other street", all(one, corner(0, 1, 7, 'l')), UNSUPPORTED, t -> t.corner(0, 1, 7, 'l'));
    }

    private static void numbersOfDoorsGone() {
        says(TERMS, "Doors that are gone keep their numbers.");
        Given two = all(streets(1), door(0, 5, 'l'), door(0, 6, 'l'));
        taken("behind one taken away", all(two, gone(1)), t -> t.door(0, 7, 'l'), 2);
        taken("behind one that is merged", all(two, t -> t.merge(1, 0)), t -> t.door(0, 7, 'l'), 2);
        taken("behind all", all(two, gone(0, 1)), t -> t.door(0, 7, 'l'), 2);
        taken("the one that is gone", all(two, gone(1)), t -> t.isGone(1), true);
        taken("with all of 40 gone but one", all(streets(1), times(39, t -> t.remove(t.door(0, 5, 'l')))),
                t -> t.door(0, 7, 'l'), 39);
        refused("with all of 40 gone", all(streets(1), times(40, t -> t.remove(t.door(0, 5, 'l')))), STATE,
                t -> t.door(0, 7, 'l'));
    }

    private static void farther() {
        says(TERMS, "A door is farther on than another one of its street if it is farther from the beginning;");
        Given first = all(streets(1), door(0, 20, 'l'));
        taken("a metre farther", all(first, door(0, 21, 'l')), t -> t.clashes(0), 0);
        taken("a metre less far", all(first, door(0, 19, 'l')), t -> t.clashes(0), 1);
        taken("a metre less far as it goes back", all(first, door(0, 21, 'l'), way(0, 'y', true)), t -> t.clashes(0), 1);
        taken("a metre farther as it goes back", all(first, door(0, 19, 'l'), way(0, 'y', true)), t -> t.clashes(0), 0);
        Given steps = all(street("a", 50, 's', false), door(0, 20, 'l'));
        taken("numbered a metre farther", steps, t -> comes(t, 0, 21, 'l'), 30);
        taken("numbered a metre less far", steps, t -> comes(t, 0, 19, 'l'), 11);
    }

    private static void fartherByNumbers() {
        says(TERMS, "of those as far, with a higher number.");
        Given as = all(streets(2), door(1, 5, 'l'), door(0, 20, 'l'));
        taken("a higher number", all(as, door(0, 20, 'l')), t -> t.clashes(0), 0);
        taken("a lower number", all(as, corner(0, 0, 20, 'l')), t -> t.clashes(0), 1);
        taken("a higher number as it goes back", all(as, door(0, 20, 'l'), way(0, 'y', true)), t -> t.clashes(0), 0);
        taken("a lower number as it goes back", all(as, corner(0, 0, 20, 'l'), way(0, 'y', true)), t -> t.clashes(0), 1);
        Given steps = all(as, way(0, 's', false));
        taken("numbered with a higher number", steps, t -> comes(t, 0, 20, 'l'), 30);
        taken("numbered with a lower number", steps, t -> t.corner(0, 0, 20, 'l'), 11);
    }

    // ---- addresses ----

    private static void codes() {
        says(TERMS, "An address has a number and perhaps a letter, a to i; it is told by a code, 10 times the number,"
                + " and 1 to 9 for the letter, 0 without.");
        Given ten = all(street("a", 999, 'm', false), doors(10, 0, 5, 'l'));
        taken("without a letter, then a to i", ten, t -> addresses(t), "10 11 12 13 14 15 16 17 18 19");
        refused("no letter behind i", ten, UNSUPPORTED, t -> t.door(0, 5, 'l'));
        taken("no letter", ten, t -> found(t, "a", 10), 0);
        taken("a", ten, t -> found(t, "a", 11), 1);
        taken("i", ten, t -> found(t, "a", 19), 9);
        taken("the greatest number by metres, without a letter and to i",
                all(street("a", 999, 'm', false), doors(10, 0, 999, 'r')), t -> addresses(t),
                "2000 2001 2002 2003 2004 2005 2006 2007 2008 2009");
    }

    private static void addressesOfOneDoor() {
        says(TERMS, "A street gives each address to one door at a time.");
        Given two = all(street("a", 50, 'm', false), street("b", 50, 'm', false), door(0, 5, 'l'), door(0, 6, 'l'));
        taken("another one to the next door", two, t -> addresses(t), "10 11");
        taken("the same one on another street", two, t -> comes(t, 1, 5, 'l'), 10);
        taken("the same one behind a door that is gone", all(two, gone(0)), t -> comes(t, 0, 6, 'l'), 10);
        taken("that of a letter behind a door that is gone", all(two, gone(1)), t -> comes(t, 0, 6, 'l'), 11);
        taken("another one to a corner", all(two, door(1, 5, 'l')), t -> t.corner(2, 0, 5, 'l'), 12);
        taken("the same one behind a corner that is gone", all(two, door(1, 5, 'l'), corner(2, 0, 5, 'l'), gone(2)),
                t -> comes(t, 0, 5, 'l'), 12);
    }

    private static void addressAtOnce() {
        says(TERMS, "A door that comes gets one so.");
        taken("a door", all(streets(2), door(0, 5, 'l')), t -> t.address(0, false), 10);
        taken("a corner", all(streets(2), door(0, 5, 'l'), corner(0, 1, 5, 'r')), t -> t.address(0, true), 10);
        refused("a door that is no corner has none there", all(streets(2), door(0, 5, 'l')), NO_ELEMENT, t -> t.address(0, true));
    }

    private static void byMetres() {
        says(TERMS, "By metres, the number is twice the tens of metres from the beginning, cut, and 1 on the left, 2 on the right;");
        int[] metres = {0, 9, 10, 19, 20, 989, 990, 999};
        int[] numbers = {0, 0, 2, 2, 4, 196, 198, 198};
        for (int i = 0; i < metres.length; i++) {
            int metre = metres[i];
            int number = numbers[i];
            Given road = street("a", 999, 'm', false);
            Given back = street("a", 999, 'm', true);
            taken("left at " + metre, road, t -> comes(t, 0, metre, 'l'), 10 * (number + 1));
            taken("right at " + metre, road, t -> comes(t, 0, metre, 'r'), 10 * (number + 2));
            taken("left, as far from the other end, " + metre, back, t -> comes(t, 0, 999 - metre, 'l'), 10 * (number + 1));
            taken("right, as far from the other end, " + metre, back, t -> comes(t, 0, 999 - metre, 'r'), 10 * (number + 2));
        }
    }

    private static void byMetresWithLetters() {
        says(TERMS, "if that is given, the number with the first letter, from a on, that is not.");
        Given road = street("a", 50, 'm', false);
        taken("not given", road, t -> comes(t, 0, 5, 'l'), 10);
        taken("given: a", all(road, door(0, 0, 'l')), t -> comes(t, 0, 9, 'l'), 11);
        taken("given to i: no other number", all(road, doors(10, 0, 0, 'l')), t -> comes(t, 0, 10, 'l'), 30);
        taken("given, with all letters but i", all(road, doors(9, 0, 0, 'l')), t -> comes(t, 0, 9, 'l'), 19);
        refused("given with all letters", all(road, doors(10, 0, 0, 'l')), UNSUPPORTED, t -> t.door(0, 9, 'l'));
        Given ten = all(road, doors(10, 0, 0, 'l'));
        taken("a is not", all(ten, gone(1, 5)), t -> comes(t, 0, 9, 'l'), 11);
        taken("the first one that is not is e", all(ten, gone(5, 7)), t -> comes(t, 0, 9, 'l'), 15);
        taken("i is not", all(ten, gone(9)), t -> comes(t, 0, 9, 'l'), 19);
        taken("the number itself is not, though letters are", all(ten, gone(0, 1)), t -> comes(t, 0, 9, 'l'), 10);
        taken("the other side's number is not", ten, t -> comes(t, 0, 9, 'r'), 20);
        taken("given on the other side", all(street("a", 50, 'y', false), door(0, 5, 'r'), way(0, 'm', false)),
                t -> comes(t, 0, 5, 'l'), 11);
    }

    private static void byBuilding() {
        says(TERMS, "By building, the number is 1 more than the greatest one that the street has given ever since it was renumbered,"
                + " or there.");
        Given road = street("a", 999, 'y', false);
        taken("none given", road, t -> comes(t, 0, 500, 'r'), 10);
        taken("one given", all(road, door(0, 5, 'l')), t -> comes(t, 0, 500, 'r'), 20);
        taken("one given to a door that is gone", all(road, door(0, 5, 'l'), gone(0)), t -> comes(t, 0, 500, 'r'), 20);
        taken("one given to a corner that is gone", all(road, street("b", 10, 'm', false), door(1, 0, 'l'),
                corner(0, 0, 5, 'l'), gone(0)), t -> comes(t, 0, 500, 'r'), 20);
        taken("the greatest of those given by metres", all(road, way(0, 'm', false), door(0, 999, 'l'), door(0, 0, 'l'),
                gone(0), way(0, 'y', false)), t -> comes(t, 0, 500, 'r'), 2000);
        taken("a number with a letter", all(road, way(0, 'm', false), doors(2, 0, 5, 'l'), gone(0, 1), way(0, 'y', false)),
                t -> comes(t, 0, 500, 'r'), 20);
        taken("another street has its own", all(road, doors(5, 0, 5, 'l'), street("b", 10, 'y', false)),
                t -> comes(t, 1, 5, 'l'), 10);
        taken("the last of 40", all(road, doors(39, 0, 5, 'l')), t -> comes(t, 0, 5, 'l'), 400);
    }

    private static void byBuildingSinceRenumbered() {
        says(TERMS, "By building, the number is 1 more than the greatest one that the street has given ever since it was renumbered,"
                + " or there.");
        Given three = all(street("a", 99, 'y', false), doors(3, 0, 5, 'l'));
        taken("renumbered without doors", all(three, gone(0, 1, 2), t -> t.renumber(0)), t -> comes(t, 0, 5, 'l'), 10);
        taken("renumbered with one door", all(three, gone(0, 1), t -> t.renumber(0)), t -> comes(t, 0, 5, 'l'), 20);
        taken("renumbered without a change", all(three, gone(2), t -> t.renumber(0)), t -> comes(t, 0, 5, 'l'), 30);
        taken("what the renumbering gave to a door that is gone then", all(three, gone(0), t -> t.renumber(0), gone(2)),
                t -> comes(t, 0, 5, 'l'), 30);
        taken("what was given behind the renumbering", all(three, gone(0), t -> t.renumber(0), door(0, 5, 'l'), gone(3)),
                t -> comes(t, 0, 5, 'l'), 40);
        taken("renumbered by another way", all(three, way(0, 'm', false), t -> t.renumber(0), way(0, 'y', false)),
                t -> comes(t, 0, 5, 'l'), 20);
        taken("another street is renumbered", all(three, gone(2), street("b", 10, 's', false), t -> t.renumber(1)),
                t -> comes(t, 0, 5, 'l'), 40);
        taken("a renumbering that is refused", all(street("a", 99, 'y', false), doors(12, 0, 5, 'l'), gone(11),
                way(0, 'm', false), t -> Check.outcome(() -> t.renumber(0)), way(0, 'y', false)),
                t -> comes(t, 0, 5, 'l'), 130);
        Given joined = all(three, street("b", 99, 's', false), door(1, 5, 'l'), t -> t.join(0, 1));
        taken("given by a join to a door that is gone then", all(joined, gone(3)), t -> comes(t, 0, 5, 'l'), 50);
    }

    // ---- addresses by steps ----

    private static void sidesBySteps() {
        says(TERMS, "By steps, it is odd on the left, even on the right:");
        Given road = street("a", 99, 's', false);
        taken("the first on the left", road, t -> comes(t, 0, 50, 'l'), 10);
        taken("the first on the right", road, t -> comes(t, 0, 50, 'r'), 20);
        taken("the next on the left", all(road, door(0, 50, 'l'), door(0, 50, 'r')), t -> comes(t, 0, 60, 'l'), 30);
        taken("the next on the right", all(road, door(0, 50, 'l'), door(0, 50, 'r')), t -> comes(t, 0, 60, 'r'), 40);
        Given built = all(street("a", 99, 'y', false), doors(2, 0, 50, 'l'), doors(2, 0, 50, 'r'), way(0, 's', false));
        taken("odd behind an even one", built, t -> comes(t, 0, 60, 'l'), 50);
        taken("even behind an even one", built, t -> comes(t, 0, 60, 'r'), 60);
        taken("even behind an odd one", all(built, gone(3)), t -> comes(t, 0, 60, 'r'), 40);
    }

    private static void numbersGivenBySteps() {
        says(TERMS, "the least such number that is not given, without or with a letter,");
        Given road = street("a", 99, 's', false);
        taken("the least of all", road, t -> comes(t, 0, 99, 'l'), 10);
        taken("the least that is free again", all(road, door(0, 10, 'l'), door(0, 20, 'l'), door(0, 30, 'l'), gone(1)),
                t -> comes(t, 0, 15, 'l'), 30);
        Given right = all(street("a", 99, 'y', false), door(0, 50, 'r'), way(0, 's', false));
        taken("1 is given on the other side", right, t -> comes(t, 0, 5, 'l'), 30);
        taken("1 is given no more", all(right, gone(0)), t -> comes(t, 0, 5, 'l'), 10);
        // Number 9 and 9a at the metres 40 and 41, number 7 at the metre 30; then the street goes back.
        Given letters = all(street("a", 99, 'm', false), door(0, 40, 'l'), door(0, 41, 'l'), door(0, 30, 'l'), way(0, 's', true));
        taken("9 is given without a letter and with one", letters, t -> comes(t, 0, 29, 'l'), 110);
        taken("9 is given without a letter", all(letters, gone(1)), t -> comes(t, 0, 29, 'l'), 110);
        taken("9 is given with a letter", all(letters, gone(0)), t -> comes(t, 0, 29, 'l'), 110);
        taken("9 is not given", all(letters, gone(0, 1)), t -> comes(t, 0, 29, 'l'), 90);
        // The odd numbers 1 to 77, the last one ahead as the street goes back.
        Given most = all(street("a", 999, 'm', false), t -> everyTenMetres(t, 39), way(0, 's', true));
        taken("all odd numbers to 77 are given", most, t -> comes(t, 0, 0, 'l'), 790);
        taken("all but 77", all(most, gone(38)), t -> comes(t, 0, 0, 'l'), 770);
        taken("ahead of 77, 75 is not", all(most, gone(37)), t -> comes(t, 0, 999, 'l'), 750);
        taken("ahead of 77, all are", most, t -> comes(t, 0, 999, 'l'), 771);
    }

    private static void everyTenMetres(StreetNamer town, int count) {
        for (int i = 0; i < count; i++) {
            town.door(0, 10 * i + 5, 'l');
        }
    }

    private static void numbersBehindTheLast() {
        says(TERMS, "and is more than that of the last door of its side that is less far on, if there is one,");
        Given road = street("a", 99, 's', false);
        taken("there is none", all(road, door(0, 50, 'r')), t -> comes(t, 0, 60, 'l'), 10);
        taken("there is one", all(road, door(0, 50, 'l')), t -> comes(t, 0, 51, 'l'), 30);
        taken("there is one as far, with a lower number", all(road, door(0, 50, 'l')), t -> comes(t, 0, 50, 'l'), 30);
        taken("there is one at metre 0, the first door of all", all(road, door(0, 0, 'l')), t -> comes(t, 0, 1, 'l'), 30);
        taken("there is one at metre 0, the first door of all, with the number 19",
                all(street("a", 99, 'm', true), door(0, 0, 'l'), way(0, 's', false)), t -> comes(t, 0, 1, 'l'), 210);
        taken("there is one at metre 0, as far", all(road, door(0, 0, 'l')), t -> comes(t, 0, 0, 'l'), 30);
        taken("there is one at the other end, going back", all(street("a", 99, 's', true), door(0, 99, 'l')),
                t -> comes(t, 0, 98, 'l'), 30);
        taken("there is one as far, with a higher number",
                all(road, street("b", 10, 's', false), door(1, 0, 'l'), door(0, 50, 'l')), t -> t.corner(0, 0, 50, 'l'), 11);
        // Numbers 1, 2, 3 at the metres 30, 20, 10.
        Given built = all(street("a", 99, 'y', false), door(0, 30, 'l'), door(0, 20, 'l'), door(0, 10, 'l'), way(0, 's', false));
        taken("the last one, not the greatest one", built, t -> comes(t, 0, 40, 'l'), 50);
        taken("3 is free", all(built, gone(2)), t -> comes(t, 0, 40, 'l'), 30);
        taken("the last one has a letter", all(road, door(0, 50, 'l'), door(0, 49, 'l'), gone(0)), t -> comes(t, 0, 60, 'l'), 30);
        taken("of its side", all(road, doors(3, 0, 50, 'r')), t -> comes(t, 0, 60, 'l'), 10);
    }

    private static void numbersBeforeTheNext() {
        says(TERMS, "and less than that of the next door farther on, if there is one;");
        Given road = street("a", 99, 's', false);
        Given three = all(road, door(0, 10, 'l'), door(0, 20, 'l'), door(0, 30, 'l'));
        taken("1 and 5: 3", all(three, gone(1)), t -> comes(t, 0, 25, 'l'), 30);
        taken("1 and 3: none", three, t -> comes(t, 0, 15, 'l'), 11);
        taken("none and 3: 1", all(three, gone(0)), t -> comes(t, 0, 5, 'l'), 10);
        taken("none and 5: 1, the least", all(three, gone(0, 1)), t -> comes(t, 0, 5, 'l'), 10);
        taken("none and 1: none", three, t -> comes(t, 0, 5, 'l'), 11);
        taken("5 and none: 7", three, t -> comes(t, 0, 30, 'l'), 70);
        taken("the next one at the last metre that there can be", all(street("c", 999, 's', false), door(0, 999, 'l')),
                t -> comes(t, 0, 998, 'l'), 11);
        taken("the next one at metre 0, going back", all(street("c", 999, 's', true), door(0, 0, 'l')), t -> comes(t, 0, 1, 'l'), 11);
        taken("the next one, not the last of all", all(three, gone(1), door(0, 20, 'l')), t -> comes(t, 0, 15, 'l'), 11);
        taken("the other side does not matter", all(road, door(0, 10, 'r'), door(0, 20, 'r')), t -> comes(t, 0, 5, 'l'), 10);
        Given right = all(road, door(0, 10, 'r'), door(0, 20, 'r'), door(0, 30, 'r'));
        taken("2 and 6: 4", all(right, gone(1)), t -> comes(t, 0, 25, 'r'), 40);
        taken("2 and 4: none", right, t -> comes(t, 0, 15, 'r'), 21);
        // 1 and 5 on the left, and 3 on the right.
        Given taken3 = all(street("a", 99, 'y', false), door(0, 10, 'l'), door(0, 15, 'r'), door(0, 15, 'r'), door(0, 15, 'r'),
                door(0, 30, 'l'), way(0, 's', false));
        taken("between 1 and 5, but 3 is given", taken3, t -> comes(t, 0, 25, 'l'), 11);
        taken("between 1 and 5, and 3 is not", all(taken3, gone(2)), t -> comes(t, 0, 25, 'l'), 30);
    }

    private static void numberOfTheLast() {
        says(TERMS, "if there is no such number, it is that of the last one that is less far on,");
        Given two = all(street("a", 99, 's', false), door(0, 10, 'l'), door(0, 20, 'l'), door(0, 20, 'r'));
        taken("between 1 and 3", two, t -> comes(t, 0, 11, 'l'), 11);
        taken("between 1a and 3", all(two, door(0, 11, 'l')), t -> comes(t, 0, 12, 'l'), 12);
        taken("between 1 and 1a", all(two, door(0, 15, 'l')), t -> comes(t, 0, 12, 'l'), 12);
        // Numbers 1, 2, 3 at the metres 30, 20, 10.
        Given built = all(street("a", 99, 'y', false), door(0, 30, 'l'), door(0, 20, 'l'), door(0, 10, 'l'), way(0, 's', false));
        taken("between 2 and 1, against the order", built, t -> comes(t, 0, 25, 'l'), 21);
        taken("between 3 and 2, against the order", built, t -> comes(t, 0, 15, 'l'), 31);
        taken("between 3 and 2 on another street", all(built, street("b", 10, 's', false)), t -> comes(t, 1, 5, 'l'), 10);
    }

    private static void numberOfTheNext() {
        says(TERMS, "or without such a one that of the next one,");
        Given two = all(street("a", 99, 's', false), door(0, 10, 'l'), door(0, 20, 'l'), door(0, 10, 'r'));
        taken("ahead of 1", two, t -> comes(t, 0, 9, 'l'), 11);
        taken("ahead of 2", two, t -> comes(t, 0, 9, 'r'), 21);
        taken("ahead of 1a", all(two, door(0, 9, 'l')), t -> comes(t, 0, 8, 'l'), 12);
        taken("ahead of 3, 1 free", all(two, gone(0)), t -> comes(t, 0, 9, 'l'), 10);
        Given built = all(street("a", 99, 'y', false), doors(2, 0, 20, 'r'), door(0, 20, 'l'), way(0, 's', false));
        taken("ahead of 3, 1 given on the other side", built, t -> comes(t, 0, 9, 'l'), 31);
    }

    private static void lettersBySteps() {
        says(TERMS, "with the first letter, from a on, that is not given with it.");
        Given two = all(street("a", 99, 's', false), door(0, 10, 'l'), door(0, 90, 'l'));
        taken("a", two, t -> comes(t, 0, 50, 'l'), 11);
        taken("b", all(two, door(0, 50, 'l')), t -> comes(t, 0, 50, 'l'), 12);
        taken("i", all(two, doors(8, 0, 50, 'l')), t -> comes(t, 0, 50, 'l'), 19);
        refused("none behind i", all(two, doors(9, 0, 50, 'l')), UNSUPPORTED, t -> t.door(0, 50, 'l'));
        Given all = all(two, doors(9, 0, 50, 'l'));
        taken("a again", all(all, gone(2, 4)), t -> comes(t, 0, 50, 'l'), 11);
        taken("c again", all(all, gone(4, 9)), t -> comes(t, 0, 50, 'l'), 13);
        taken("i again", all(all, gone(10)), t -> comes(t, 0, 50, 'l'), 19);
        taken("a of the number before, not of the one behind", all(two, door(0, 95, 'l')), t -> comes(t, 0, 92, 'l'), 31);
        Given free = all(two, door(0, 50, 'l'), door(0, 60, 'l'), gone(0));
        taken("behind 1b, ahead of 3: c, though 1 is given without a letter no more", free, t -> comes(t, 0, 70, 'l'), 13);
        taken("behind 1a, ahead of 1b: c", free, t -> comes(t, 0, 55, 'l'), 13);
        taken("behind 1b: a again", all(free, gone(2)), t -> comes(t, 0, 70, 'l'), 11);
        taken("ahead of 1b: a again", all(free, gone(2)), t -> comes(t, 0, 55, 'l'), 11);
    }

    private static void doorsWithoutAddressYet() {
        says(TERMS, "Doors that have no address there yet do not matter for that.");
        Given back = all(street("a", 99, 'y', false), door(0, 30, 'l'), door(0, 20, 'l'), door(0, 10, 'l'), way(0, 's', false));
        taken("in a renumbering", all(back, t -> t.renumber(0)), t -> addresses(t), "50 30 10");
        Given many = all(street("a", 99, 'm', false), doors(5, 0, 10, 'l'), way(0, 's', false));
        taken("in a renumbering, with letters before", all(many, t -> t.renumber(0)), t -> addresses(t), "10 30 50 70 90");
        Given joined = all(street("a", 20, 's', false), street("b", 30, 'y', true), door(1, 5, 'l'), door(1, 25, 'l'));
        taken("in a join", all(joined, t -> t.join(0, 1)), t -> addresses(t), "11 10");
        taken("in a join of a street that goes ahead", all(joined, way(1, 'y', false), t -> t.join(0, 1)), t -> addresses(t), "10 30");
    }

    private static void noLettersLeft() {
        says(TERMS, "If all letters are given, the door cannot come.");
        Given metres = all(street("a", 50, 'm', false), street("b", 50, 'm', false), door(1, 5, 'l'));
        taken("a door with the last letter, by metres", all(metres, doors(9, 0, 5, 'l')), t -> comes(t, 0, 9, 'l'), 19);
        refused("a door without one", all(metres, doors(10, 0, 5, 'l')), UNSUPPORTED, t -> t.door(0, 9, 'l'));
        taken("a corner with the last letter", all(metres, doors(9, 0, 5, 'l')), t -> t.corner(0, 0, 9, 'l'), 19);
        refused("a corner without one", all(metres, doors(10, 0, 5, 'l')), UNSUPPORTED, t -> t.corner(0, 0, 9, 'l'));
        Given steps = all(street("a", 50, 's', false), street("b", 50, 'm', false), door(1, 5, 'l'), door(0, 40, 'l'));
        taken("ahead of 1 with the last letter", all(steps, doors(8, 0, 5, 'l')), t -> comes(t, 0, 5, 'l'), 19);
        refused("ahead of 1 without one", all(steps, times(9, door(0, 5, 'l'))), UNSUPPORTED, t -> t.door(0, 5, 'l'));
        taken("a corner ahead with the last letter", all(steps, doors(8, 0, 5, 'l')), t -> t.corner(0, 0, 4, 'l'), 19);
        refused("a corner ahead without one", all(steps, doors(9, 0, 5, 'l')), UNSUPPORTED, t -> t.corner(0, 0, 4, 'l'));
        taken("behind 1, where there are numbers", all(steps, doors(9, 0, 5, 'l')), t -> comes(t, 0, 41, 'l'), 30);
        taken("on the other side", all(metres, doors(10, 0, 5, 'l')), t -> comes(t, 0, 9, 'r'), 20);
        taken("by building there are always numbers", all(metres, doors(10, 0, 5, 'l'), way(0, 'y', false)),
                t -> comes(t, 0, 9, 'l'), 20);
    }
}
