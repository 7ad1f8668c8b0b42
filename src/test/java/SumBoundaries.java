import java.math.BigInteger;

/** The boundary cases of the promises of shares, means and sums. */
final class SumBoundaries extends Boundary {
    private SumBoundaries() {
    }

    static void run() {
        goneShares();
        noShare();
        meanDoors();
        noMean();
        checksums();
        checksumsThatWrapAround();
    }

    private static void goneShares() {
        says("Promise 28", "Returns the share of doors that are gone.");
        says("Promise 28", "Returns their number divided by that of all, both converted to float.");
        Given three = all(streets(2), doors(3, 0, 5, 'l'));
        taken("none gone", three, t -> t.goneShare(), 0f);
        taken("one of three", all(three, gone(0)), t -> t.goneShare(), 1f / 3f);
        taken("two of three, one merged", all(three, gone(0), t -> t.merge(1, 2)), t -> t.goneShare(), 2f / 3f);
        taken("all of three", all(three, gone(0, 1, 2)), t -> t.goneShare(), 1f);
        taken("a corner is one door", all(three, corner(0, 1, 5, 'l'), gone(0)), t -> t.goneShare(), 1f / 3f);
        taken("a street that is gone takes no door along", all(three, t -> t.join(1, 0)), t -> t.goneShare(), 0f);
        taken("one of 40", all(streets(1), doors(40, 0, 5, 'l'), gone(39)), t -> t.goneShare(), 1f / 40f);
        taken("39 of 40", all(streets(1), doors(40, 0, 5, 'l'), t -> goneTo(t, 39)), t -> t.goneShare(), 39f / 40f);
    }

    private static void noShare() {
        says("Promise 28", "Throws `ArithmeticException` if there are none");
        refused("no street", nothing(), ARITHMETIC, t -> t.goneShare());
        refused("no door", streets(12), ARITHMETIC, t -> t.goneShare());
        taken("one", all(streets(1), door(0, 5, 'l')), t -> t.goneShare(), 0f);
        taken("one, which is gone", all(streets(1), door(0, 5, 'l'), gone(0)), t -> t.goneShare(), 1f);
    }

    private static void meanDoors() {
        says("Promise 29", "Returns the mean number of doors of streets.");
        says("Promise 29", "Returns the sum over streets that are not gone divided by their number, both converted to double.");
        Given three = all(streets(3), door(0, 5, 'l'), door(1, 5, 'l'));
        taken("two on three", three, t -> t.meanDoors(), 2.0 / 3.0);
        taken("a corner counts twice", all(three, corner(0, 2, 5, 'l')), t -> t.meanDoors(), 1.0);
        taken("one gone", all(three, gone(0)), t -> t.meanDoors(), 1.0 / 3.0);
        taken("one street gone, its door counts where it is then", all(three, t -> t.join(2, 1)), t -> t.meanDoors(), 1.0);
        taken("one with both", all(three, corner(0, 1, 5, 'l'), t -> t.join(0, 1)), t -> t.meanDoors(), 1.0);
        taken("40 on 12", all(streets(12), doors(40, 0, 5, 'l')), t -> t.meanDoors(), 40.0 / 12.0);
        taken("none on 12", streets(12), t -> t.meanDoors(), 0.0);
    }

    private static void noMean() {
        says("Promise 29", "Throws `ArithmeticException` if there are none");
        refused("no street", nothing(), ARITHMETIC, t -> t.meanDoors());
        refused("no street, but a name", name("a"), ARITHMETIC, t -> t.meanDoors());
        taken("one", streets(1), t -> t.meanDoors(), 0.0);
        taken("one, which stays of two", all(streets(2), t -> t.join(1, 0)), t -> t.meanDoors(), 0.0);
    }

    private static void checksums() {
        says("Promise 30", "Returns a sum over the town.");
        says("Promise 30", "Returns 7 at first, then for each street that is not gone 31 times itself plus its length,"
                + " then 31 times itself plus how many doors it has; then for each door that is not gone 31 times itself plus its code,"
                + " and, of a corner, 31 times itself plus the code there; then 31 times itself plus how many old addresses are kept.");
        taken("a new town", nothing(), t -> t.checksum(), sum(0));
        taken("a street", streets(1), t -> t.checksum(), sum(50, 0, 0));
        Given two = all(street("a", 10, 'y', false), street("b", 999, 'm', false), door(1, 999, 'r'), door(0, 5, 'l'));
        taken("two streets and two doors", two, t -> t.checksum(), sum(10, 1, 999, 1, 2000, 10, 0));
        taken("a corner", all(two, corner(0, 0, 5, 'l')), t -> t.checksum(), sum(10, 2, 999, 1, 2000, 20, 10, 0));
        taken("a door gone", all(two, gone(0)), t -> t.checksum(), sum(10, 1, 999, 0, 10, 1));
        taken("a corner gone", all(two, corner(0, 0, 5, 'l'), gone(0)), t -> t.checksum(), sum(10, 1, 999, 0, 10, 2));
        taken("all gone", all(two, gone(0, 1)), t -> t.checksum(), sum(10, 0, 999, 0, 2));
        taken("a street gone", all(streets(3), door(0, 5, 'l'), door(2, 5, 'l'), t -> t.join(2, 0)), t -> t.checksum(),
                sum(50, 0, 100, 2, 20, 10, 1));
    }

    private static void checksumsThatWrapAround() {
        says("Promise 30", "31 times itself plus how many old addresses are kept.");
        taken("12 streets", streets(12), t -> t.checksum(), sum(50, 0, 50, 0, 50, 0, 50, 0, 50, 0, 50, 0, 50, 0, 50, 0, 50, 0, 50, 0,
                50, 0, 50, 0, 0));
        for (int count = 9; count <= 40; count++) {
            int doors = count;
            int[] parts = new int[doors + 3];
            parts[0] = 50;
            parts[1] = doors;
            for (int i = 0; i < doors; i++) {
                parts[i + 2] = 10 * (i + 1);
            }
            taken(count + " doors", all(streets(1), doors(doors, 0, 5, 'l')), t -> t.checksum(), sum(parts));
        }
        Given most = all(streets(1), doors(40, 0, 5, 'l'), first(0, "v"), first(0, "w"), first(0, "x"), first(0, "y"), first(0, "z"));
        int[] parts = new int[43];
        parts[0] = 50;
        parts[1] = 40;
        for (int i = 0; i < 40; i++) {
            parts[i + 2] = 10 * (i + 1);
        }
        parts[42] = 200;
        taken("200 old addresses", most, t -> t.checksum(), sum(parts));
        taken("200 of 240 old addresses", all(most, first(0, "b")), t -> t.checksum(), sum(parts));
    }

    /** Without bounds at first, then as 64 bits hold it. */
    private static long sum(int... parts) {
        BigInteger sum = BigInteger.valueOf(7);
        for (int part : parts) {
            sum = sum.multiply(BigInteger.valueOf(31)).add(BigInteger.valueOf(part));
        }
        return sum.longValue();
    }

    private static void goneTo(StreetNamer town, int count) {
        for (int door = 0; door < count; door++) {
            town.remove(door);
        }
    }
}
