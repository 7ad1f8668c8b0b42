import java.lang.reflect.Field;

/** No run of calls brings a town to where isTrue answers false, so these towns are broken from inside. */
public final class BrokenTownTest {
    private BrokenTownTest() {
    }

    public static void main(String[] args) throws ReflectiveOperationException {
        Check.due("a whole town", town().isTrue(), true);
        StreetNamer twins = town();
        put(place(twins, 1, "first"), "code", 10);
        Check.due("two doors with an address", twins.isTrue(), false);
        StreetNamer cornerTwins = town();
        put(place(cornerTwins, 0, "second"), "code", 20);
        put(place(cornerTwins, 2, "first"), "code", 20);
        Check.due("two doors with an address at a corner", cornerTwins.isTrue(), false);
        StreetNamer noCode = town();
        put(place(noCode, 1, "first"), "code", 0);
        Check.due("a door without an address", noCode.isTrue(), false);
        StreetNamer noCornerCode = town();
        put(place(noCornerCode, 0, "second"), "code", 0);
        Check.due("a corner without an address", noCornerCode.isTrue(), false);
        StreetNamer noStreet = town();
        put(item(noStreet, "allStreets", 1), "isGone", true);
        Check.due("a door of a street that is gone", noStreet.isTrue(), false);
        StreetNamer noPlace = town();
        put(item(noPlace, "allDoors", 1), "first", null);
        Check.due("a door that is not gone without a street", noPlace.isTrue(), false);
        names("firstName", "firstName");
        names("firstName", "secondName");
        names("secondName", "firstName");
        names("secondName", "secondName");
        StreetNamer sameNames = town();
        Object street = item(sameNames, "allStreets", 1);
        put(street, "secondName", get(street, "firstName"));
        Check.due("a street with one name twice", sameNames.isTrue(), false);
        leads();
        Check.end("BrokenTownTest");
    }

    private static void names(String one, String other) throws ReflectiveOperationException {
        StreetNamer town = town();
        put(item(town, "allStreets", 0), one, get(item(town, "allStreets", 1), other));
        Check.due("two streets with a name, " + one + " and " + other, town.isTrue(), false);
    }

    private static void leads() throws ReflectiveOperationException {
        StreetNamer town = town();
        town.merge(0, 1);
        town.merge(1, 2);
        Check.due("doors that lead on to an end", town.isTrue(), true);
        town.remove(2);
        Check.due("doors that lead on to what is lost", town.isTrue(), true);
        put(item(town, "allDoors", 2), "leadsTo", item(town, "allDoors", 0));
        Check.due("doors that lead round", town.isTrue(), false);
    }

    private static StreetNamer town() {
        StreetNamer town = new StreetNamer();
        for (int i = 0; i < 2; i++) {
            Check.street(town, i == 0 ? "a" : "b", 50, 's', false);
            Check.typed(town, i == 0 ? "c" : "d");
            town.translate(i);
        }
        town.door(0, 5, 'l');
        town.door(0, 15, 'l');
        town.door(1, 15, 'l');
        town.corner(0, 1, 20, 'r');
        return town;
    }

    private static Object place(StreetNamer town, int door, String which) throws ReflectiveOperationException {
        return get(item(town, "allDoors", door), which);
    }

    private static Object item(StreetNamer town, String array, int index) throws ReflectiveOperationException {
        return ((Object[]) get(town, array))[index];
    }

    private static Object get(Object object, String name) throws ReflectiveOperationException {
        return field(object, name).get(object);
    }

    private static void put(Object object, String name, Object value) throws ReflectiveOperationException {
        field(object, name).set(object, value);
    }

    private static Field field(Object object, String name) throws ReflectiveOperationException {
        Field field = object.getClass().getDeclaredField(name);
        field.setAccessible(true);
        return field;
    }
}
