/** The boundary cases of the promises of doors, corners, and walks. */
final class DoorBoundaries extends Boundary {
    private DoorBoundaries() {
    }

    static void run() {
        doorsAdded();
        doorArguments();
        doorsThatCannotCome();
        doorNumbers();
        corners();
        cornerArguments();
        cornersThatCannotBe();
        merging();
        mergingCounts();
        mergingRefused();
        removing();
        addresses();
        streetsOfDoors();
        goneDoors();
        doorsOfStreets();
        walks();
        placesInWalks();
        steps();
        clashes();
    }

    // ---- doors ----

    private static void doorsAdded() {
        says("Promise 9", "Adds a door.");
        Given two = streets(2);
        taken("its street", all(two, door(1, 5, 'l')), t -> t.streetOf(0, false), 1);
        taken("the doors", all(two, door(1, 5, 'l')), t -> t.doors(0) + " " + t.doors(1), "0 1");
        says("Promise 9", "Returns its number.");
        taken("the first one", two, t -> t.door(1, 5, 'l'), 0);
        taken("the second one, on another street", all(two, door(1, 5, 'l')), t -> t.door(0, 5, 'l'), 1);
        taken("the 40th one", all(two, doors(39, 1, 5, 'l')), t -> t.door(0, 5, 'l'), 39);
        says("Promise 9", "Throws `IndexOutOfBoundsException` if there is no such street any more");
        asksStreet((t, street) -> t.door(street, 5, 'l'));
    }

    private static void doorArguments() {
        says("Promise 9", "`metre`: the metre");
        says("Promise 9", "`side`: 'l' or 'r'");
        says("Promise 9", "Throws `IllegalArgumentException` if there is no such metre or side");
        for (int length : new int[] {10, 50, 999}) {
            Given road = street("a", length, 'm', true);
            taken("metre 0 of " + length, road, t -> t.door(0, 0, 'l'), 0);
            taken("metre " + length + " of " + length, road, t -> t.door(0, length, 'r'), 0);
            for (int metre : new int[] {-1, length + 1, -length, LEAST, GREATEST, LEAST + length}) {
                refused("metre " + metre + " of " + length, road, ARGUMENT, t -> t.door(0, metre, 'l'));
            }
        }
        Given joined = all(street("a", 20, 'y', true), street("b", 30, 'y', true), t -> t.join(0, 1));
        taken("metre 50 of 20 and 30", joined, t -> t.door(0, 50, 'l'), 0);
        refused("metre 51 of 20 and 30", joined, ARGUMENT, t -> t.door(0, 51, 'l'));
        for (char side : new char[] {'k', 'm', 'q', 's', 'y', 'L', 'R', 0, ' ', (char) ('r' + 256), (char) 0xFFFF}) {
            refused("side " + (int) side, streets(1), ARGUMENT, t -> t.door(0, 5, side));
        }
    }

    private static void doorsThatCannotCome() {
        says("Promise 9", "Throws `UnsupportedOperationException` if it cannot come");
        Given metres = all(street("a", 50, 'm', false), t -> doorsAt(t, 20, 9, 'r'));
        taken("the last letter, by metres", metres, t -> comes(t, 0, 29, 'r'), 69);
        refused("no letter, by metres", all(metres, door(0, 29, 'r')), UNSUPPORTED, t -> t.door(0, 25, 'r'));
        taken("the ten metres before", all(metres, door(0, 29, 'r')), t -> comes(t, 0, 19, 'r'), 40);
        taken("the ten metres behind", all(metres, door(0, 29, 'r')), t -> comes(t, 0, 30, 'r'), 80);
        Given steps = all(street("a", 50, 's', false), door(0, 5, 'r'), door(0, 45, 'r'), t -> doorsAt(t, 20, 8, 'r'));
        taken("the last letter, by steps", steps, t -> comes(t, 0, 29, 'r'), 29);
        refused("no letter, by steps", all(steps, door(0, 29, 'r')), UNSUPPORTED, t -> t.door(0, 25, 'r'));
        refused("no letter, by steps, ahead of 2", all(steps, door(0, 29, 'r')), UNSUPPORTED, t -> t.door(0, 4, 'r'));
        taken("a number, by steps, behind 4", all(steps, door(0, 29, 'r')), t -> comes(t, 0, 45, 'r'), 60);
        taken("a letter that is free again", all(steps, door(0, 29, 'r'), gone(6)), t -> comes(t, 0, 25, 'r'), 25);
    }

    private static void doorsAt(StreetNamer town, int metre, int count, char side) {
        for (int i = 0; i < count; i++) {
            town.door(0, metre + i, side);
        }
    }

    private static void doorNumbers() {
        says("Promise 9", "Throws `IllegalStateException` if there are 40, those that are gone counted");
        taken("there are 39", all(streets(2), doors(39, 0, 5, 'l')), t -> t.door(1, 5, 'l'), 39);
        refused("there are 40", all(streets(2), doors(40, 0, 5, 'l')), STATE, t -> t.door(1, 5, 'l'));
        Given gone = all(streets(2), doors(30, 0, 5, 'l'), gone(0, 5, 29), t -> t.merge(7, 8));
        taken("there are 39, 4 of them gone", all(gone, doors(9, 1, 5, 'l')), t -> t.door(0, 5, 'l'), 39);
        refused("there are 40, 4 of them gone", all(gone, doors(10, 1, 5, 'l')), STATE, t -> t.door(0, 5, 'l'));
        refused("there are 40, all of them gone", all(streets(1), times(40, t -> t.remove(t.door(0, 5, 'l')))), STATE,
                t -> t.door(0, 5, 'l'));
    }

    // ---- corners ----

    private static void corners() {
        says("Promise 10", "Makes a door a corner.");
        says("Promise 10", "`street`: another street");
        Given two = all(streets(3), door(0, 5, 'l'), door(2, 5, 'l'), door(2, 5, 'l'));
        taken("its street", all(two, corner(0, 2, 7, 'r')), t -> t.streetOf(0, true), 2);
        taken("its first street", all(two, corner(0, 2, 7, 'r')), t -> t.streetOf(0, false), 0);
        taken("the doors", all(two, corner(0, 2, 7, 'r')), t -> t.doors(0) + " " + t.doors(1) + " " + t.doors(2), "1 0 3");
        taken("its side", all(two, corner(0, 2, 7, 'r')), t -> Seen.walk(t, 2), "1 2 0");
        says("Promise 10", "Returns the code of its address there.");
        taken("the code", two, t -> t.corner(0, 2, 7, 'r'), 30);
        taken("the first code", two, t -> t.corner(0, 1, 7, 'r'), 10);
        taken("a code with a letter", all(two, way(1, 'm', false), corner(1, 1, 9, 'l')), t -> t.corner(0, 1, 7, 'l'), 11);
        says("Promise 10", "Throws `IndexOutOfBoundsException` if there is no such door, or no such street any more");
        asksStreet((t, street) -> t.corner(0, street, 5, 'l'));
        asksDoor((t, door) -> t.corner(door, 1, 5, 'l'));
    }

    private static void cornerArguments() {
        says("Promise 10", "`metre`: the metre there");
        says("Promise 10", "`side`: 'l' or 'r'");
        says("Promise 10", "Throws `IllegalArgumentException` if there is no such metre or side");
        for (int length : new int[] {10, 40, 999}) {
            Given two = all(street("a", 50, 'y', false), door(0, 5, 'l'), street("b", length, 'y', true));
            taken("metre 0 of " + length, two, t -> t.corner(0, 1, 0, 'r'), 10);
            taken("metre " + length + " of " + length, two, t -> t.corner(0, 1, length, 'l'), 10);
            for (int metre : new int[] {-1, length + 1, LEAST, GREATEST}) {
                refused("metre " + metre + " of " + length, two, ARGUMENT, t -> t.corner(0, 1, metre, 'l'));
            }
        }
        for (char side : new char[] {'k', 'm', 'q', 's', 'y', 'L', 'R', 0, (char) ('l' + 256)}) {
            refused("side " + (int) side, all(streets(2), door(0, 5, 'l')), ARGUMENT, t -> t.corner(0, 1, 5, side));
        }
    }

    private static void cornersThatCannotBe() {
        says("Promise 10", "Throws `UnsupportedOperationException` if the door is gone, is a corner, or is of that street, or cannot come");
        Given two = all(streets(3), doors(2, 0, 5, 'l'));
        taken("neither", two, t -> t.corner(0, 1, 5, 'l'), 10);
        refused("it is gone", all(two, gone(0)), UNSUPPORTED, t -> t.corner(0, 1, 5, 'l'));
        refused("it is merged", all(two, t -> t.merge(0, 1)), UNSUPPORTED, t -> t.corner(0, 1, 5, 'l'));
        refused("it is a corner", all(two, corner(0, 1, 5, 'l')), UNSUPPORTED, t -> t.corner(0, 2, 5, 'l'));
        refused("it is a corner there", all(two, corner(0, 1, 5, 'l')), UNSUPPORTED, t -> t.corner(0, 1, 6, 'l'));
        refused("it is of that street", two, UNSUPPORTED, t -> t.corner(0, 0, 6, 'l'));
        taken("it is a corner no more", all(two, corner(0, 1, 5, 'l'), t -> t.join(0, 1)), t -> t.corner(0, 2, 5, 'l'), 10);
        taken("it was gone from that street by a join", all(two, t -> t.join(1, 0)), t -> t.corner(0, 2, 5, 'l'), 10);
        refused("it is of that street by a join", all(two, t -> t.join(1, 0)), UNSUPPORTED, t -> t.corner(0, 1, 5, 'l'));
        Given metres = all(two, way(1, 'm', false), doors(9, 1, 5, 'l'));
        taken("with the last letter", metres, t -> t.corner(0, 1, 5, 'l'), 19);
        refused("without one", all(metres, corner(0, 1, 5, 'l')), UNSUPPORTED, t -> t.corner(1, 1, 5, 'l'));
        taken("without one, on the other side", all(metres, corner(0, 1, 5, 'l')), t -> t.corner(1, 1, 5, 'r'), 20);
        taken("though there are 40 doors", all(streets(2), doors(40, 0, 5, 'l')), t -> t.corner(39, 1, 5, 'l'), 10);
    }

    // ---- doors that go ----

    private static void merging() {
        says("Promise 11", "Merges a door into another one.");
        says("Promise 11", "`other`: the other one");
        Given three = all(streets(2), doors(3, 0, 5, 'l'), corner(1, 1, 5, 'l'));
        taken("the door is gone", all(three, t -> t.merge(1, 2)), t -> t.isGone(1), true);
        taken("the other one is not", all(three, t -> t.merge(1, 2)), t -> t.isGone(2), false);
        taken("the doors", all(three, t -> t.merge(1, 2)), t -> t.doors(0) + " " + t.doors(1), "2 0");
        taken("a letter", all(three, t -> t.merge(1, 2)), t -> sent(t, "b", 10), 2);
        taken("the other one keeps its address", all(three, t -> t.merge(1, 2)), t -> addresses(t), "10 - 30");
        says("Promise 11", "Throws `IndexOutOfBoundsException` if there is no such door, for either");
        asksDoor((t, door) -> t.merge(door, 0));
        asksDoor((t, door) -> t.merge(0, door));
        asksDoor((t, door) -> t.merge(door, door));
    }

    private static void mergingCounts() {
        says("Promise 11", "Returns how many doors lead to the other one then, themselves or over others.");
        Given many = all(streets(1), doors(40, 0, 5, 'l'));
        taken("one", many, t -> t.merge(0, 1), 1);
        taken("two themselves", all(many, t -> t.merge(0, 1)), t -> t.merge(2, 1), 2);
        taken("one itself, and one over it", all(many, t -> t.merge(0, 1)), t -> t.merge(1, 2), 2);
        taken("one itself, two over it", all(many, t -> t.merge(0, 2), t -> t.merge(1, 2)), t -> t.merge(2, 39), 3);
        taken("those that lead to others do not count", all(many, t -> t.merge(0, 1), t -> t.merge(2, 3)), t -> t.merge(4, 3), 2);
        taken("those that are lost do not count", all(many, t -> t.merge(0, 1), gone(1)), t -> t.merge(4, 3), 1);
        taken("39 themselves", all(many, t -> mergedInto(t, 38)), t -> t.merge(38, 39), 39);
        taken("39 one over the other", all(many, t -> chain(t, 38)), t -> t.merge(38, 39), 39);
    }

    private static void mergedInto(StreetNamer town, int count) {
        for (int door = 0; door < count; door++) {
            town.merge(door, 39);
        }
    }

    private static void chain(StreetNamer town, int count) {
        for (int door = 0; door < count; door++) {
            town.merge(door, door + 1);
        }
    }

    private static void mergingRefused() {
        says("Promise 11", "Throws `IllegalArgumentException` if both are the same");
        Given three = all(streets(1), doors(3, 0, 5, 'l'));
        for (int door = 0; door < 3; door++) {
            int same = door;
            refused("both are " + door, three, ARGUMENT, t -> t.merge(same, same));
        }
        taken("they are not", three, t -> t.merge(1, 0), 1);
        says("Promise 11", "Throws `UnsupportedOperationException` if one is gone");
        refused("the door is gone", all(three, gone(1)), UNSUPPORTED, t -> t.merge(1, 0));
        refused("the other one is gone", all(three, gone(1)), UNSUPPORTED, t -> t.merge(0, 1));
        refused("both are gone", all(three, gone(1, 2)), UNSUPPORTED, t -> t.merge(1, 2));
        refused("the door is merged", all(three, t -> t.merge(1, 0)), UNSUPPORTED, t -> t.merge(1, 2));
        refused("merged the other way round", all(three, t -> t.merge(1, 0)), UNSUPPORTED, t -> t.merge(0, 1));
        taken("a third one is gone", all(three, gone(1)), t -> t.merge(0, 2), 1);
    }

    private static void removing() {
        says("Promise 12", "Takes a door away.");
        Given three = all(streets(2), second(0, "z"), doors(3, 0, 5, 'l'), corner(1, 1, 5, 'l'));
        taken("it is gone", all(three, gone(1)), t -> t.isGone(1), true);
        taken("the others are not", all(three, gone(1)), t -> addresses(t), "10 - 30");
        taken("the doors", all(three, gone(1)), t -> t.doors(0) + " " + t.doors(1), "2 0");
        says("Promise 12", "Returns how many old addresses there are.");
        taken("of two names", three, t -> t.remove(0), 2);
        taken("of two names and a corner", three, t -> t.remove(1), 3);
        taken("with others", all(three, gone(0)), t -> t.remove(1), 5);
        Given many = all(streets(1), second(0, "z"), doors(40, 0, 5, 'l'), first(0, "v"), first(0, "w"), first(0, "x"), first(0, "y"));
        taken("162", many, t -> t.remove(0), 162);
        taken("198", all(many, t -> goneTo(t, 18)), t -> t.remove(18), 198);
        taken("200", all(many, t -> goneTo(t, 19)), t -> t.remove(19), 200);
        taken("200 and no more", all(many, t -> goneTo(t, 20)), t -> t.remove(20), 200);
        says("Promise 12", "Throws `IndexOutOfBoundsException` if there is no such door");
        asksDoor((t, door) -> t.remove(door));
        says("Promise 12", "Throws `UnsupportedOperationException` if it is gone");
        refused("it is taken away", all(three, gone(1)), UNSUPPORTED, t -> t.remove(1));
        refused("it is merged", all(three, t -> t.merge(1, 0)), UNSUPPORTED, t -> t.remove(1));
        taken("that into which it is merged", all(three, t -> t.merge(1, 0)), t -> t.remove(0), 5);
    }

    private static void goneTo(StreetNamer town, int count) {
        for (int door = 0; door < count; door++) {
            town.remove(door);
        }
    }

    // ---- what doors have ----

    private static void addresses() {
        says("Promise 16", "Returns the code of an address of a door.");
        says("Promise 16", "`isCorner`: whether that of its other street is asked");
        says("Promise 16", "Returns the code.");
        Given two = all(streets(2), door(0, 5, 'l'), door(1, 5, 'l'), door(1, 5, 'l'), door(0, 5, 'l'), corner(0, 1, 5, 'l'),
                corner(2, 0, 5, 'l'));
        taken("it is not", two, t -> t.address(0, false), 10);
        taken("it is", two, t -> t.address(0, true), 30);
        taken("the code of the higher street first", two, t -> t.address(2, false), 20);
        taken("the code of the lower street then", two, t -> t.address(2, true), 30);
        says("Promise 16", "Throws `IndexOutOfBoundsException` if there is no such door");
        asksDoor((t, door) -> t.address(door, false));
        asksDoor((t, door) -> t.address(door, true));
        says("Promise 16", "Throws `NoSuchElementException` if it has none");
        refused("no corner", two, NO_ELEMENT, t -> t.address(1, true));
        refused("gone", all(two, gone(0)), NO_ELEMENT, t -> t.address(0, false));
        refused("gone, the corner's", all(two, gone(0)), NO_ELEMENT, t -> t.address(0, true));
        refused("merged", all(two, t -> t.merge(0, 2)), NO_ELEMENT, t -> t.address(0, false));
        refused("a corner no more", all(two, t -> t.join(0, 1)), NO_ELEMENT, t -> t.address(0, true));
    }

    private static void streetsOfDoors() {
        says("Promise 17", "Returns a street of a door.");
        says("Promise 17", "`isCorner`: whether its other street is asked");
        says("Promise 17", "Returns the street.");
        Given two = all(streets(12), door(0, 5, 'l'), door(11, 5, 'l'), door(11, 5, 'l'), corner(0, 11, 5, 'l'), corner(2, 0, 5, 'l'));
        taken("it is not", two, t -> t.streetOf(0, false), 0);
        taken("it is", two, t -> t.streetOf(0, true), 11);
        taken("the higher street first", two, t -> t.streetOf(2, false), 11);
        taken("the lower street then", two, t -> t.streetOf(2, true), 0);
        taken("the one that stays of two", all(two, t -> t.join(5, 11)), t -> t.streetOf(0, true), 5);
        says("Promise 17", "Throws `IndexOutOfBoundsException` if there is no such door");
        asksDoor((t, door) -> t.streetOf(door, false));
        asksDoor((t, door) -> t.streetOf(door, true));
        says("Promise 17", "Throws `NoSuchElementException` if it has none");
        refused("no corner", two, NO_ELEMENT, t -> t.streetOf(1, true));
        refused("gone", all(two, gone(0)), NO_ELEMENT, t -> t.streetOf(0, false));
        refused("gone, the corner's", all(two, gone(0)), NO_ELEMENT, t -> t.streetOf(0, true));
        refused("merged", all(two, t -> t.merge(0, 2)), NO_ELEMENT, t -> t.streetOf(0, false));
        refused("a corner no more", all(two, t -> t.join(0, 11)), NO_ELEMENT, t -> t.streetOf(0, true));
    }

    private static void goneDoors() {
        says("Promise 18", "Returns whether a door is gone.");
        says("Promise 18", "Returns whether it is.");
        Given two = all(streets(2), doors(3, 0, 5, 'l'), corner(0, 1, 5, 'l'));
        taken("it is not", two, t -> t.isGone(0), false);
        taken("taken away", all(two, gone(0)), t -> t.isGone(0), true);
        taken("another one taken away", all(two, gone(0)), t -> t.isGone(1), false);
        taken("merged", all(two, t -> t.merge(0, 1)), t -> t.isGone(0), true);
        taken("merged into", all(two, t -> t.merge(0, 1)), t -> t.isGone(1), false);
        taken("its street is gone", all(two, t -> t.join(1, 0)), t -> t.isGone(2), false);
        says("Promise 18", "Throws `IndexOutOfBoundsException` if there is no such door");
        asksDoor((t, door) -> t.isGone(door));
    }

    private static void doorsOfStreets() {
        says("Promise 23", "Returns how many doors a street has.");
        says("Promise 23", "Returns how many.");
        Given two = all(streets(2), door(0, 5, 'l'));
        taken("none", two, t -> t.doors(1), 0);
        taken("one", two, t -> t.doors(0), 1);
        taken("a corner on one street", all(two, corner(0, 1, 5, 'l')), t -> t.doors(0), 1);
        taken("a corner on the other street", all(two, corner(0, 1, 5, 'l')), t -> t.doors(1), 1);
        taken("gone", all(two, gone(0)), t -> t.doors(0), 0);
        taken("merged", all(two, door(0, 5, 'l'), t -> t.merge(1, 0)), t -> t.doors(0), 1);
        taken("40", all(streets(1), doors(40, 0, 5, 'l')), t -> t.doors(0), 40);
        taken("joined", all(two, door(1, 5, 'l'), t -> t.join(0, 1)), t -> t.doors(0), 2);
        taken("one with both, joined", all(two, corner(0, 1, 5, 'l'), t -> t.join(0, 1)), t -> t.doors(0), 1);
        says("Promise 23", "Throws `IndexOutOfBoundsException` if there is no such street any more");
        asksStreet((t, street) -> t.doors(street));
    }

    // ---- walks ----

    private static void walks() {
        says("Promise 24", "Returns a door of a walk.");
        says("Promise 24", "Returns the door.");
        Given four = all(streets(1), door(0, 9, 'r'), door(0, 50, 'r'), door(0, 50, 'l'), door(0, 9, 'l'));
        int[] walk = {3, 2, 1, 0};
        for (int i = 0; i < walk.length; i++) {
            int index = i;
            taken("place " + i, four, t -> t.walk(0, index), walk[i]);
            taken("place " + i + ", going back", all(four, way(0, 's', true)), t -> t.walk(0, index), walk[i]);
        }
        says("Promise 24", "Throws `IndexOutOfBoundsException` if there is no such street any more");
        asksStreet((t, street) -> t.walk(street, 0));
        asksStreet((t, street) -> t.walk(street, -1));
    }

    private static void placesInWalks() {
        says("Promise 24", "`index`: the place, from 0");
        says("Promise 24", "Throws `NoSuchElementException` if there is none");
        Given three = all(streets(2), doors(3, 0, 5, 'l'));
        taken("the first place", three, t -> t.walk(0, 0), 0);
        taken("the last place", three, t -> t.walk(0, 2), 2);
        for (int index : new int[] {-1, 3, 39, 40, LEAST, GREATEST}) {
            refused("place " + index + " of 3", three, NO_ELEMENT, t -> t.walk(0, index));
        }
        refused("the last place, one being gone", all(three, gone(0)), NO_ELEMENT, t -> t.walk(0, 2));
        refused("the first place of none", three, NO_ELEMENT, t -> t.walk(1, 0));
        Given most = all(streets(1), doors(40, 0, 5, 'r'));
        taken("place 39 of 40", most, t -> t.walk(0, 39), 39);
        refused("place 40 of 40", most, NO_ELEMENT, t -> t.walk(0, 40));
    }

    private static void steps() {
        says("Promise 25", "Returns how long a walk is.");
        says("Promise 25", "Returns the metres, 0 without doors.");
        Given road = street("a", 999, 'y', false);
        taken("no doors", road, t -> t.steps(0), 0);
        taken("no doors any more", all(road, doors(2, 0, 5, 'l'), gone(0, 1)), t -> t.steps(0), 0);
        taken("one door", all(road, door(0, 999, 'r')), t -> t.steps(0), 0);
        taken("two doors on one side", all(road, door(0, 999, 'r'), door(0, 998, 'r')), t -> t.steps(0), 1);
        taken("two doors on two sides", all(road, door(0, 999, 'r'), door(0, 998, 'l')), t -> t.steps(0), 1 + 5);
        taken("the longest walk", all(road, door(0, 0, 'l'), door(0, 999, 'l'), door(0, 999, 'r'), door(0, 0, 'r')),
                t -> t.steps(0), 2 * 999 + 5);
        says("Promise 25", "Throws `IndexOutOfBoundsException` if there is no such street any more");
        asksStreet((t, street) -> t.steps(street));
    }

    private static void clashes() {
        says("Promise 26", "Returns how many pairs of doors of one side of a street have addresses against the order in which they are on,"
                + " by codes.");
        says("Promise 26", "Returns how many.");
        taken("no doors", streets(1), t -> t.clashes(0), 0);
        taken("one door", all(streets(1), door(0, 5, 'l')), t -> t.clashes(0), 0);
        Given two = all(streets(1), door(0, 9, 'l'), door(0, 8, 'l'));
        taken("one pair", two, t -> t.clashes(0), 1);
        taken("one pair the other way", all(two, way(0, 'y', true)), t -> t.clashes(0), 0);
        taken("at one metre by numbers", all(streets(1), doors(2, 0, 9, 'l')), t -> t.clashes(0), 0);
        taken("on two sides", all(streets(1), door(0, 9, 'l'), door(0, 8, 'r')), t -> t.clashes(0), 0);
        taken("on the right", all(streets(1), door(0, 9, 'r'), door(0, 8, 'r')), t -> t.clashes(0), 1);
        taken("a pair on each side", all(two, door(0, 9, 'r'), door(0, 8, 'r')), t -> t.clashes(0), 2);
        taken("one of a pair gone", all(two, gone(0)), t -> t.clashes(0), 0);
        taken("by the letters: 1a ahead of 1", all(street("a", 50, 's', false), door(0, 9, 'l'), door(0, 8, 'l')), t -> t.clashes(0), 1);
        taken("by the letters: 1a behind 1", all(street("a", 50, 'm', false), door(0, 8, 'l'), door(0, 9, 'l')), t -> t.clashes(0), 0);
        taken("all pairs of 40", all(street("a", 50, 'y', false), t -> backward(t, 40)), t -> t.clashes(0), 40 * 39 / 2);
        taken("none, renumbered", all(street("a", 50, 'y', false), t -> backward(t, 40), way(0, 's', false), t -> t.renumber(0)),
                t -> t.clashes(0), 0);
        says("Promise 26", "Throws `IndexOutOfBoundsException` if there is no such street any more");
        asksStreet((t, street) -> t.clashes(street));
    }

    private static void backward(StreetNamer town, int count) {
        for (int i = 0; i < count; i++) {
            town.door(0, count - i, 'l');
        }
    }
}
