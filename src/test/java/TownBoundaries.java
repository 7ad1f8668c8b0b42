/** The boundary cases of "Terms": renumbering, joining, merging, letters and walks. */
final class TownBoundaries extends Boundary {
    private static final String TERMS = "Terms";

    private TownBoundaries() {
    }

    static void run() {
        renumberedAnew();
        renumberedInOrder();
        renumberingRefused();
        joinedAndGone();
        joinedInOrder();
        joinedMetres();
        joinedByTheWayThatStays();
        joinedLength();
        joinedCorners();
        mergedDoors();
        doorsTakenAway();
        namesOfLetters();
        lettersToDoorsNow();
        lettersByOldAddresses();
        lettersAlong();
        lostLetters();
        walksOnTheLeft();
        walksOnTheRight();
        walksByNumbers();
        lengthsOfWalks();
        bothSidesOfWalks();
    }

    // ---- renumbering ----

    private static void renumberedAnew() {
        says(TERMS, "All doors of a street get addresses anew, as if they came with none being given:");
        Given letters = all(street("a", 50, 'm', false), doors(10, 0, 5, 'l'));
        taken("letters that are free again", all(letters, gone(0, 3, 9), t -> t.renumber(0)), t -> addresses(t),
                "- 10 11 - 12 13 14 15 16 -");
        taken("all as they were", letters, t -> t.renumber(0), 0);
        Given built = all(streets(2), doors(3, 0, 5, 'l'));
        taken("numbers that are free again", all(built, gone(0), t -> t.renumber(0)), t -> addresses(t), "- 10 20");
        taken("no doors", built, t -> t.renumber(1), 0);
        taken("corners, too", all(built, door(1, 5, 'l'), corner(3, 0, 5, 'l'), gone(0), t -> t.renumber(0)),
                t -> t.address(3, true), 30);
        taken("their other addresses stay", all(built, door(1, 5, 'l'), corner(3, 0, 5, 'l'), gone(0), t -> t.renumber(0)),
                t -> t.address(3, false), 10);
    }

    private static void renumberedInOrder() {
        says(TERMS, "by steps and by metres those less far on first, by building by their numbers.");
        Given four = all(streets(1), door(0, 9, 'l'), door(0, 8, 'l'), door(0, 8, 'l'), door(0, 7, 'r'));
        taken("by steps", all(four, way(0, 's', false), t -> t.renumber(0)), t -> addresses(t), "50 10 30 20");
        taken("by steps, going back", all(four, way(0, 's', true), t -> t.renumber(0)), t -> addresses(t), "10 30 50 20");
        taken("by metres", all(four, way(0, 'm', false), t -> t.renumber(0)), t -> addresses(t), "12 10 11 20");
        taken("by metres, going back", all(four, way(0, 'm', true), t -> t.renumber(0)), t -> addresses(t), "90 91 92 100");
        taken("by building", all(four, way(0, 's', false), t -> t.renumber(0), way(0, 'y', false), t -> t.renumber(0)),
                t -> addresses(t), "10 20 30 40");
        taken("by building, going back", all(four, way(0, 's', true), t -> t.renumber(0), way(0, 'y', true), t -> t.renumber(0)),
                t -> addresses(t), "10 20 30 40");
    }

    private static void renumberingRefused() {
        says(TERMS, "It is refused if a door could not come so.");
        Given ten = all(street("a", 99, 'y', false), t -> everyMetre(t, 10, 20), way(0, 'm', false));
        taken("ten doors in ten metres", all(ten, t -> t.renumber(0)), t -> addresses(t), "30 31 32 33 34 35 36 37 38 39");
        refused("eleven", all(ten, way(0, 'y', false), door(0, 15, 'l'), way(0, 'm', false)), UNSUPPORTED, t -> t.renumber(0));
        taken("eleven, one behind the ten metres", all(ten, way(0, 'y', false), door(0, 20, 'l'), way(0, 'm', false)),
                t -> t.renumber(0), 11);
        taken("eleven, one ahead of them", all(ten, way(0, 'y', false), door(0, 9, 'l'), way(0, 'm', false)), t -> t.renumber(0), 11);
        taken("eleven, one on the other side", all(ten, way(0, 'y', false), door(0, 15, 'r'), way(0, 'm', false)),
                t -> t.renumber(0), 11);
        taken("eleven, one gone", all(ten, way(0, 'y', false), door(0, 15, 'l'), gone(4), way(0, 'm', false)), t -> t.renumber(0), 10);
        refused("eleven, the last one being a corner", all(ten, street("b", 10, 's', false), door(1, 0, 'l'), way(0, 'y', false),
                corner(10, 0, 15, 'l'), way(0, 'm', false)), UNSUPPORTED, t -> t.renumber(0));
        Given most = all(street("a", 99, 'y', false), doors(40, 0, 15, 'l'));
        taken("40 by building", most, t -> t.renumber(0), 0);
        taken("40 by steps: all but the first one", all(most, way(0, 's', false)), t -> t.renumber(0), 39);
        refused("40 by metres", all(most, way(0, 'm', false)), UNSUPPORTED, t -> t.renumber(0));
    }

    private static void everyMetre(StreetNamer town, int from, int to) {
        for (int metre = from; metre < to; metre++) {
            town.door(0, metre, 'l');
        }
    }

    // ---- joining ----

    private static void joinedAndGone() {
        says(TERMS, "A street that is joined to another one is gone;");
        Given two = all(streets(2), door(1, 5, 'l'));
        taken("streets before", two, t -> t.streets(), 2);
        taken("streets", all(two, t -> t.join(0, 1)), t -> t.streets(), 1);
        refused("the one that is gone", all(two, t -> t.join(0, 1)), INDEX, t -> t.doors(1));
        taken("the one that stays", all(two, t -> t.join(0, 1)), t -> t.doors(0), 1);
        refused("the lower one that is gone", all(two, t -> t.join(1, 0)), INDEX, t -> t.doors(0));
        taken("the higher one that stays", all(two, t -> t.join(1, 0)), t -> t.doors(1), 1);
        refused("joined again", all(two, t -> t.join(0, 1)), INDEX, t -> t.join(0, 1));
    }

    private static void joinedInOrder() {
        says(TERMS, "its doors come to that one, less far ones first, by the way of the one that is gone,");
        Given doors = all(streets(2), door(1, 25, 'l'), door(1, 24, 'l'), door(1, 25, 'l'), door(1, 26, 'l'));
        taken("less far ones first", all(doors, t -> t.join(0, 1)), t -> addresses(t), "20 10 30 40");
        taken("by the way back of the one that is gone", all(doors, way(1, 'y', true), t -> t.join(0, 1)), t -> addresses(t),
                "20 40 30 10");
        taken("not by the way back of the one that stays", all(doors, way(0, 'y', true), t -> t.join(0, 1)), t -> addresses(t),
                "20 10 30 40");
        taken("behind those that are there", all(doors, door(0, 5, 'l'), t -> t.join(0, 1)), t -> addresses(t), "30 20 40 50 10");
    }

    private static void joinedMetres() {
        says(TERMS, "with the metre that they had there, and as many more as the one that stays was long, whichever way either goes,"
                + " on their sides,");
        for (int backs = 0; backs < 4; backs++) {
            Given two = all(street("a", 40, 'y', backs % 2 == 1), street("b", 30, 'y', backs / 2 == 1), door(0, 0, 'l'));
            taken("metre 0 there", all(two, door(1, 0, 'l'), t -> t.join(0, 1)), t -> t.steps(0), 40);
            taken("metre 1 there", all(two, door(1, 1, 'l'), t -> t.join(0, 1)), t -> t.steps(0), 41);
            taken("the last metre there", all(two, door(1, 30, 'l'), t -> t.join(0, 1)), t -> t.steps(0), 70);
            taken("on the right", all(two, door(1, 30, 'r'), t -> t.join(0, 1)), t -> t.steps(0), 70 + 5);
            taken("the metres of the one that stays", all(two, door(0, 40, 'l'), t -> t.join(0, 1)), t -> t.steps(0), 40);
            taken("joined twice", all(two, door(1, 30, 'l'), t -> t.join(0, 1), street("c", 10, 'y', true), door(2, 10, 'l'),
                    t -> t.join(0, 2)), t -> t.steps(0), 80);
        }
    }

    private static void joinedByTheWayThatStays() {
        says(TERMS, "numbered by the way of the one that stays;");
        Given doors = all(street("a", 40, 's', false), street("b", 30, 'm', true), door(0, 5, 'l'), door(1, 5, 'l'), door(1, 25, 'r'));
        taken("before", doors, t -> addresses(t), "10 50 20");
        taken("by steps", all(doors, t -> t.join(0, 1)), t -> addresses(t), "10 30 20");
        taken("by metres", all(doors, way(0, 'm', false), t -> t.join(0, 1)), t -> addresses(t), "10 90 140");
        taken("by building", all(doors, way(0, 'y', false), t -> t.join(0, 1)), t -> addresses(t), "10 30 20");
        taken("by metres, going back", all(doors, way(0, 'm', true), t -> t.join(0, 1)), t -> addresses(t), "10 50 20");
        taken("by steps, going back: ahead of 1", all(doors, way(0, 's', true), t -> t.join(0, 1)), t -> addresses(t), "10 11 20");
    }

    private static void joinedLength() {
        says(TERMS, "the one that stays becomes as much longer, ahead of that.");
        Given two = all(street("a", 40, 'm', true), street("b", 30, 's', false), door(1, 30, 'l'), door(1, 0, 'l'));
        taken("the length", two, t -> t.join(0, 1), 70);
        taken("numbered from the new end", all(two, t -> t.join(0, 1)), t -> addresses(t), "10 70");
        taken("the new end", all(two, t -> t.join(0, 1)), t -> comes(t, 0, 70, 'r'), 20);
        refused("behind it", all(two, t -> t.join(0, 1)), ARGUMENT, t -> t.door(0, 71, 'r'));
        taken("without doors", streets(2), t -> t.join(1, 0), 100);
    }

    private static void joinedCorners() {
        says(TERMS, "A door that has both streets loses its place on the one that is gone, and is no corner then.");
        Given two = all(streets(3), door(0, 5, 'l'), door(1, 5, 'l'), corner(0, 1, 7, 'r'), corner(1, 0, 7, 'r'));
        Given joined = all(two, t -> t.join(0, 1));
        taken("addresses", joined, t -> addresses(t), "10 20");
        taken("no corners", joined, t -> addresses(t, true), "- -");
        refused("that was one first there", joined, NO_ELEMENT, t -> t.streetOf(0, true));
        refused("that was one first on the one that is gone", joined, NO_ELEMENT, t -> t.streetOf(1, true));
        taken("the street of that", joined, t -> t.streetOf(1, false), 0);
        taken("the doors", joined, t -> t.doors(0), 2);
        taken("it can be a corner again", joined, t -> t.corner(1, 2, 9, 'l'), 10);
        taken("a corner with a third street stays one", all(streets(3), door(1, 5, 'l'), corner(0, 2, 7, 'r'), t -> t.join(0, 1)),
                t -> t.streetOf(0, false) + " " + t.streetOf(0, true), "0 2");
        taken("the other way round", all(streets(3), door(2, 5, 'l'), corner(0, 1, 7, 'r'), t -> t.join(0, 1)),
                t -> t.streetOf(0, false) + " " + t.streetOf(0, true), "2 0");
        Given full = all(street("a", 15, 'm', false), street("b", 15, 'y', false), doors(10, 0, 12, 'l'));
        taken("one with both needs no address", all(full, corner(3, 1, 4, 'l')), t -> t.join(0, 1), 30);
        refused("one with the street that is gone needs one", all(full, door(1, 4, 'l')), UNSUPPORTED, t -> t.join(0, 1));
        taken("which it can have five metres on", all(full, door(1, 5, 'l')), t -> t.join(0, 1), 30);
    }

    // ---- merging ----

    private static void mergedDoors() {
        says(TERMS, "A door that is merged into another one is gone, and leads to that one;");
        Given two = all(streets(1), doors(3, 0, 5, 'l'), t -> t.merge(1, 0));
        taken("the one that is gone", two, t -> t.isGone(1), true);
        taken("the other one is not", two, t -> t.isGone(0), false);
        refused("its address", two, NO_ELEMENT, t -> t.address(1, false));
        taken("where it leads", two, t -> sent(t, "a", 20), 0);
        taken("merged into a higher one", all(two, t -> t.merge(0, 2)), t -> sent(t, "a", 10), 2);
    }

    private static void doorsTakenAway() {
        says(TERMS, "one that is taken away is lost.");
        Given two = all(streets(1), doors(2, 0, 5, 'l'));
        taken("before", all(two, t -> t.merge(0, 1)), t -> sent(t, "a", 10), 1);
        taken("the one that is gone", all(two, gone(0)), t -> t.isGone(0), true);
        refused("a letter to it", all(two, gone(0), name("a")), UNSUPPORTED, t -> t.send(10));
        refused("a letter over another one to it", all(two, t -> t.merge(0, 1), gone(1), name("a")), UNSUPPORTED, t -> t.send(10));
    }

    // ---- letters ----

    private static void namesOfLetters() {
        says(TERMS, "A letter has the name that is typed and a code.");
        Given two = all(streets(2), second(1, "ba"), door(0, 5, 'l'), door(1, 5, 'l'));
        taken("a first name", two, t -> sent(t, "a", 10), 0);
        taken("another one", two, t -> sent(t, "b", 10), 1);
        taken("a second name", two, t -> sent(t, "ba", 10), 1);
        refused("a name with a letter more", all(two, name("aa")), NO_ELEMENT, t -> t.send(10));
        refused("a name with a letter less", all(two, second(1, "abcdefg"), name("abcdef")), NO_ELEMENT, t -> t.send(10));
        refused("no name", all(two, gone(0), name("")), NO_ELEMENT, t -> t.send(10));
        for (int code : new int[] {20, 9, 11, 0, 1, -10, 10 + (1 << 16), LEAST, GREATEST}) {
            refused("the code " + code, all(two, name("a")), NO_ELEMENT, t -> t.send(code));
        }
    }

    private static void lettersToDoorsNow() {
        says(TERMS, "It goes to the door that has that address now;");
        Given old = all(street("a", 50, 's', false), doors(2, 0, 5, 'l'), t -> t.merge(0, 1));
        taken("without one, to where the old one leads", old, t -> sent(t, "a", 10), 1);
        taken("with one", all(old, door(0, 4, 'l')), t -> sent(t, "a", 10), 2);
        taken("with one, where the old one is lost", all(old, gone(1), door(0, 4, 'l')), t -> sent(t, "a", 10), 2);
        taken("with a corner", all(old, street("b", 50, 's', false), door(1, 5, 'l'), corner(2, 0, 4, 'l')), t -> sent(t, "a", 10), 2);
        taken("with another street of that name", all(old, first(0, "c"), street("a", 50, 's', false), door(1, 5, 'l')),
                t -> sent(t, "a", 10), 2);
        taken("with another street of that name, without that address", all(old, first(0, "c"), street("a", 50, 's', false),
                door(1, 5, 'l')), t -> sent(t, "a", 30), 1);
    }

    private static void lettersByOldAddresses() {
        says(TERMS, "without one, to the door of the old address that became old last,");
        Given twice = all(street("a", 50, 's', false), door(0, 5, 'l'), street("b", 50, 's', false), doors(2, 1, 5, 'l'),
                t -> t.merge(0, 1), door(0, 5, 'l'));
        taken("not without one", twice, t -> sent(t, "a", 10), 3);
        taken("on the same day", all(twice, t -> t.merge(3, 2)), t -> sent(t, "a", 10), 2);
        taken("on another day", all(twice, t -> t.day(1), t -> t.merge(3, 2)), t -> sent(t, "a", 10), 2);
        refused("the last one is lost, though the first one is not", all(twice, gone(3), name("a")), UNSUPPORTED, t -> t.send(10));
        taken("its door is not gone, but has another address", all(street("a", 50, 's', false), door(0, 5, 'l'), door(0, 4, 'l'),
                t -> t.renumber(0)), t -> sent(t, "a", 11), 1);
    }

    private static void lettersAlong() {
        says(TERMS, "or to where that door leads, and so on;");
        Given most = all(streets(1), doors(40, 0, 5, 'l'));
        taken("one on", all(most, t -> t.merge(0, 1)), t -> sent(t, "a", 10), 1);
        taken("two on", all(most, t -> t.merge(0, 1), t -> t.merge(1, 2)), t -> sent(t, "a", 10), 2);
        taken("39 on", all(most, t -> chain(t)), t -> sent(t, "a", 10), 39);
        taken("the last of 39", all(most, t -> chain(t)), t -> sent(t, "a", 390), 39);
    }

    private static void chain(StreetNamer town) {
        for (int door = 0; door < 39; door++) {
            town.merge(door, door + 1);
        }
    }

    private static void lostLetters() {
        says(TERMS, "if that is lost, so is the letter.");
        Given most = all(streets(1), doors(40, 0, 5, 'l'), t -> chain(t));
        taken("not lost, 39 on", most, t -> sent(t, "a", 10), 39);
        refused("lost, 39 on", all(most, gone(39), name("a")), UNSUPPORTED, t -> t.send(10));
        refused("lost itself", all(most, gone(39), name("a")), UNSUPPORTED, t -> t.send(400));
    }

    // ---- walks ----

    private static void walksOnTheLeft() {
        says(TERMS, "A walk through a street goes to all doors of the left side by metres,");
        Given three = all(streets(2), door(0, 50, 'l'), door(0, 0, 'l'), door(0, 1, 'l'));
        taken("by metres", three, t -> Seen.walk(t, 0), "1 2 0");
        taken("a corner, too", all(three, door(1, 0, 'r'), corner(3, 0, 49, 'l')), t -> Seen.walk(t, 0), "1 2 3 0");
        taken("not those that are gone", all(three, gone(2)), t -> Seen.walk(t, 0), "1 0");
        taken("no doors", three, t -> Seen.walk(t, 1), "");
        taken("all 40", all(streets(1), doors(40, 0, 5, 'l')), t -> t.walk(0, 39), 39);
    }

    private static void walksOnTheRight() {
        says(TERMS, "then to those of the right side backward,");
        Given four = all(street("a", 999, 'y', false), door(0, 999, 'r'), door(0, 0, 'r'), door(0, 998, 'r'), door(0, 999, 'l'));
        taken("the left side first", four, t -> Seen.walk(t, 0), "3 0 2 1");
        taken("no left side", all(four, gone(3)), t -> Seen.walk(t, 0), "0 2 1");
        taken("the left side at metre 0, too", all(four, door(0, 0, 'l')), t -> Seen.walk(t, 0), "4 3 0 2 1");
    }

    private static void walksByNumbers() {
        says(TERMS, "doors at one metre by numbers each time.");
        Given at = all(streets(2), door(1, 5, 'l'), door(1, 6, 'l'), doors(2, 0, 20, 'l'), doors(2, 0, 20, 'r'),
                corner(0, 0, 20, 'l'), corner(1, 0, 20, 'r'));
        taken("left and right", at, t -> Seen.walk(t, 0), "0 2 3 1 4 5");
        taken("though it goes back", all(at, way(0, 's', true)), t -> Seen.walk(t, 0), "0 2 3 1 4 5");
    }

    private static void lengthsOfWalks() {
        says(TERMS, "It is as long as the metres between doors one behind the other,");
        Given road = street("a", 999, 'y', false);
        taken("no doors", road, t -> t.steps(0), 0);
        taken("one door", all(road, door(0, 500, 'l')), t -> t.steps(0), 0);
        taken("two at one metre", all(road, doors(2, 0, 500, 'l')), t -> t.steps(0), 0);
        taken("two on the left", all(road, door(0, 999, 'l'), door(0, 0, 'l')), t -> t.steps(0), 999);
        taken("two on the right", all(road, door(0, 999, 'r'), door(0, 1, 'r')), t -> t.steps(0), 998);
        taken("three on the right", all(road, door(0, 10, 'r'), door(0, 1, 'r'), door(0, 7, 'r')), t -> t.steps(0), 9);
        taken("one that is gone", all(road, door(0, 999, 'l'), door(0, 0, 'l'), gone(0)), t -> t.steps(0), 0);
    }

    private static void bothSidesOfWalks() {
        says(TERMS, "and 5 more if both sides have doors.");
        Given road = street("a", 999, 'y', false);
        taken("at one metre", all(road, door(0, 7, 'l'), door(0, 7, 'r')), t -> t.steps(0), 5);
        taken("over and forth", all(road, door(0, 7, 'l'), door(0, 9, 'r')), t -> t.steps(0), 2 + 5);
        taken("over and back", all(road, door(0, 9, 'l'), door(0, 7, 'r')), t -> t.steps(0), 2 + 5);
        taken("all round", all(road, door(0, 0, 'l'), door(0, 999, 'l'), door(0, 0, 'r'), door(0, 999, 'r')), t -> t.steps(0),
                999 + 5 + 999);
        taken("all round, to another metre", all(road, door(0, 0, 'l'), door(0, 90, 'l'), door(0, 0, 'r'), door(0, 99, 'r')),
                t -> t.steps(0), 90 + 9 + 5 + 99);
        taken("only one side has doors now", all(road, door(0, 7, 'l'), door(0, 9, 'r'), gone(1)), t -> t.steps(0), 0);
    }
}
