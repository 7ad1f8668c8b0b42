import java.lang.reflect.Field;

/** The boundary cases of isTrue. No run of calls brings a town to where it is false, so those are broken from inside. */
final class TruthBoundaries extends Boundary {
    /** Breaks a town. */
    private interface Break {
        void of(StreetNamer town) throws ReflectiveOperationException;
    }

    private TruthBoundaries() {
    }

    static void run() {
        addressesOfOneDoor();
        addressesOfAllDoors();
        namesAlike();
        leads();
        townsThatCallsMake();
    }

    private static void addressesOfOneDoor() {
        says("Promise 31", "Checks that each street gives each address to one door,");
        taken("it does", town(), t -> t.isTrue(), true);
        broken("two doors", town(), t -> put(place(t, 1, "first"), "code", 10));
        broken("a door and a corner", town(), t -> put(place(t, 2, "first"), "code", 20), t -> put(place(t, 0, "second"), "code", 20));
        taken("two streets do", all(town(), door(1, 1, 'l')), t -> t.isTrue(), true);
        says("Promise 31", "Returns whether all of it holds.");
        broken("the last two of 40 doors", all(streets(1), doors(40, 0, 5, 'l')), t -> put(place(t, 39, "first"), "code", 390));
        broken("the first and the last of 40 doors", all(streets(1), doors(40, 0, 5, 'l')), t -> put(place(t, 39, "first"), "code", 10));
        broken("on the last of 12 streets", all(streets(12), doors(2, 11, 5, 'l')), t -> put(place(t, 1, "first"), "code", 10));
    }

    private static void addressesOfAllDoors() {
        says("Promise 31", "that each door that is not gone has one on each of its streets,");
        broken("a door without one", town(), t -> put(place(t, 1, "first"), "code", 0));
        broken("a corner without one", town(), t -> put(place(t, 0, "second"), "code", 0));
        broken("a door of a street that is gone", town(), t -> put(item(t, "allStreets", 1), "isGone", true));
        broken("a door without a street", town(), t -> put(item(t, "allDoors", 1), "first", null));
        broken("the last of 40 doors", all(streets(1), doors(40, 0, 5, 'l')), t -> put(place(t, 39, "first"), "code", 0));
        taken("a door that is gone has none", all(town(), gone(0)), t -> t.isTrue(), true);
        taken("a door that is merged has none", all(town(), t -> t.merge(0, 1)), t -> t.isTrue(), true);
    }

    private static void namesAlike() {
        says("Promise 31", "that no two names in use are alike,");
        for (String one : new String[] {"firstName", "secondName"}) {
            for (String other : new String[] {"firstName", "secondName"}) {
                broken(one + " and " + other, town(), t -> put(item(t, "allStreets", 0), one, get(item(t, "allStreets", 1), other)));
                broken(one + " and " + other + " of the last two of 12", all(streets(12), second(10, "y"), second(11, "z")),
                        t -> put(item(t, "allStreets", 10), one, get(item(t, "allStreets", 11), other)));
            }
        }
        broken("both of one street", town(), t -> put(item(t, "allStreets", 1), "secondName", get(item(t, "allStreets", 1), "firstName")));
        taken("no second names", streets(12), t -> t.isTrue(), true);
        taken("names of a street that is gone", all(town(), t -> t.join(0, 1), first(0, "b"), second(0, "d")), t -> t.isTrue(), true);
    }

    private static void leads() {
        says("Promise 31", "and that all that doors lead to ends.");
        Given merged = all(town(), t -> t.merge(0, 1), t -> t.merge(1, 2));
        taken("they lead on", merged, t -> t.isTrue(), true);
        taken("they lead on to what is lost", all(merged, gone(2)), t -> t.isTrue(), true);
        broken("they lead round", all(merged, gone(2)), t -> put(item(t, "allDoors", 2), "leadsTo", item(t, "allDoors", 0)));
        broken("one leads to itself", all(town(), gone(2)), t -> put(item(t, "allDoors", 2), "leadsTo", item(t, "allDoors", 2)));
        Given most = all(streets(1), doors(40, 0, 5, 'l'), t -> chain(t));
        taken("39 lead on", most, t -> t.isTrue(), true);
        taken("39 lead on to what is lost", all(most, gone(39)), t -> t.isTrue(), true);
        broken("40 lead round", all(most, gone(39)), t -> put(item(t, "allDoors", 39), "leadsTo", item(t, "allDoors", 0)));
    }

    private static void townsThatCallsMake() {
        says("Promise 31", "Returns whether all of it holds.");
        taken("a new town", nothing(), t -> t.isTrue(), true);
        taken("as many as can be", all(streets(12), doors(40, 0, 5, 'l')), t -> t.isTrue(), true);
        taken("with all letters", all(street("a", 50, 'm', false), doors(10, 0, 5, 'l')), t -> t.isTrue(), true);
        taken("corners joined", all(town(), t -> t.join(1, 0)), t -> t.isTrue(), true);
        taken("renumbered", all(town(), way(0, 'm', true), t -> t.renumber(0)), t -> t.isTrue(), true);
        taken("all gone", all(town(), gone(0, 1, 2)), t -> t.isTrue(), true);
    }

    private static void chain(StreetNamer town) {
        for (int door = 0; door < 39; door++) {
            town.merge(door, door + 1);
        }
    }

    /** Street 0, a and c, with the doors 0 and 1, and street 1, b and d, with the door 2 and the corner 0. */
    private static Given town() {
        return all(street("a", 50, 's', false), second(0, "c"), street("b", 50, 's', false), second(1, "d"), door(0, 5, 'l'),
                door(0, 15, 'l'), door(1, 15, 'l'), corner(0, 1, 20, 'r'));
    }

    private static void broken(String what, Given given, Break... breaks) {
        taken("whole before: " + what, given, t -> t.isTrue(), true);
        taken("broken: " + what, all(given, t -> breaking(t, breaks)), t -> t.isTrue(), false);
    }

    private static void breaking(StreetNamer town, Break... breaks) {
        try {
            for (Break one : breaks) {
                one.of(town);
            }
        } catch (ReflectiveOperationException e) {
            throw new IllegalStateException(e);
        }
    }

    private static Object place(StreetNamer town, int door, String which) throws ReflectiveOperationException {
        return get(item(town, "allDoors", door), which);
    }

    private static Object item(StreetNamer town, String array, int index) throws ReflectiveOperationException {
        return ((Object[]) get(town, array))[index];
    }

    private static Object get(Object object, String name) throws ReflectiveOperationException {
        return field(object, name).get(object);
    }

    private static void put(Object object, String name, Object value) throws ReflectiveOperationException {
        field(object, name).set(object, value);
    }

    private static Field field(Object object, String name) throws ReflectiveOperationException {
        Field field = object.getClass().getDeclaredField(name);
        field.setAccessible(true);
        return field;
    }
}
