import java.util.Set;
import java.util.TreeSet;
import java.util.function.Supplier;

/**
 * All that calls can bring to light of a town, what is typed, the day, and the numbers that streets
 * have given among it. Each look takes a new town that is made the same way, since it changes it.
 */
final class Seen {
    /** Beyond the codes that the boundary tests let become old. */
    private static final int CODES = 600;

    /** The names that have been typed for the towns looked at; old addresses are looked for with them. */
    static final Set<String> NAMES = new TreeSet<>();

    private Seen() {
    }

    static String of(Supplier<StreetNamer> made) {
        StringBuilder seen = new StringBuilder();
        seen.append(still(made.get()));
        seen.append("\ntyped ").append(typed(made.get()));
        seen.append("\nday ").append(made.get().day(1));
        seen.append("\nolds ").append(olds(made.get()));
        seen.append("\ncoming ").append(coming(made.get()));
        seen.append("\nby building ").append(byBuilding(made.get()));
        seen.append("\nrenumbered ").append(renumbered(made.get()));
        seen.append("\njoined ").append(joined(made.get()));
        return seen.toString();
    }

    private static String still(StreetNamer town) {
        StringBuilder seen = new StringBuilder(Check.sight(town));
        seen.append('\n').append(Check.outcome(() -> town.goneShare()));
        seen.append(' ').append(Check.outcome(() -> town.meanDoors()));
        seen.append(' ').append(town.isTrue());
        for (int s = 0; s < 12; s++) {
            seen.append("\nwalk ").append(walk(town, s));
        }
        return seen.toString();
    }

    static String walk(StreetNamer town, int street) {
        StringBuilder seen = new StringBuilder();
        for (int i = 0; i < 41; i++) {
            int index = i;
            Object door = Check.outcome(() -> town.walk(street, index));
            if (door instanceof Integer) {
                seen.append(i == 0 ? "" : " ").append(door);
            }
        }
        return seen.toString();
    }

    /** The typed letters come to light as a street bears them, with one more if there is room, since they may be in use. */
    private static String typed(StreetNamer town) {
        StringBuilder seen = new StringBuilder();
        seen.append(Check.outcome(() -> town.type('q')));
        Object street = Check.outcome(() -> town.street(10, 'y', false));
        seen.append(' ').append(street);
        if (street instanceof Integer number) {
            seen.append(' ').append(Check.nameOf(town, number, false));
        }
        for (int s = 0; s < 12; s++) {
            int number = s;
            seen.append(' ').append(Check.outcome(() -> town.translate(number)));
            seen.append(' ').append(Check.nameOf(town, s, true));
        }
        return seen.append(' ').append(town.wipe()).toString();
    }

    private static String olds(StreetNamer town) {
        StringBuilder seen = new StringBuilder();
        seen.append(town.olds());
        if (town.olds() == 0) {
            return seen.toString();
        }
        for (String name : NAMES) {
            town.wipe();
            for (char letter : name.toCharArray()) {
                town.type(letter);
            }
            for (int c = 10; c < CODES; c++) {
                int code = c;
                Object day = Check.outcome(() -> town.until(code));
                if (day instanceof Integer) {
                    seen.append(' ').append(name).append(code).append(' ').append(day);
                    seen.append(' ').append(Check.outcome(() -> town.send(code)));
                }
            }
        }
        return seen.toString();
    }

    private static String coming(StreetNamer town) {
        StringBuilder seen = new StringBuilder();
        for (int s = 0; s < 12; s++) {
            seen.append(' ').append(comes(town, s, 0, 'l')).append(' ').append(comes(town, s, 9, 'r'));
            int street = s;
            seen.append(' ').append(Check.outcome(() -> town.clashes(street)));
        }
        return seen.toString();
    }

    /** The address that a new door gets, or, if there can be none, a door that becomes a corner. */
    private static String comes(StreetNamer town, int street, int metre, char side) {
        Object door = Check.outcome(() -> town.door(street, metre, side));
        if (door instanceof Integer number) {
            return String.valueOf(town.address(number, false));
        }
        for (int d = 0; d < 40; d++) {
            int number = d;
            Object code = Check.outcome(() -> town.corner(number, street, metre, side));
            if (code instanceof Integer) {
                return String.valueOf(code);
            }
        }
        return String.valueOf(door);
    }

    private static String byBuilding(StreetNamer town) {
        StringBuilder seen = new StringBuilder();
        for (int s = 0; s < 12; s++) {
            int street = s;
            seen.append(' ').append(Check.outcome(() -> town.way(street, 'y', false)));
            seen.append(' ').append(comes(town, s, 0, 'l'));
        }
        return seen.toString();
    }

    private static String renumbered(StreetNamer town) {
        StringBuilder seen = new StringBuilder();
        for (int s = 0; s < 12; s++) {
            int street = s;
            seen.append(' ').append(Check.outcome(() -> town.renumber(street)));
        }
        return seen.append(Check.sight(town)).toString();
    }

    private static String joined(StreetNamer town) {
        StringBuilder seen = new StringBuilder();
        for (int s = 1; s < 12; s++) {
            int street = s;
            seen.append(' ').append(Check.outcome(() -> town.join(0, street)));
        }
        return seen.append(Check.sight(town)).toString();
    }
}
