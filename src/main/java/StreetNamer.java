import java.util.Arrays;
import java.util.NoSuchElementException;

/**
 * How a town finds its doors: streets with names, doors with addresses,
 * and letters with old addresses that must still arrive.
 */
public final class StreetNamer {
    private static final int MOST_STREETS = 12;
    private static final int MOST_DOORS = 40;
    private static final int MOST_OLDS = 200;
    private static final int MOST_LETTERS = 7;
    private static final int LAST_LETTER = 9;
    private static final int SHORTEST = 10;
    private static final int LONGEST = 999;
    private static final int MOST_DAYS = 9999;
    private static final int CROSSING = 5;

    /** Codes and numbers of addresses begin above 0, so 0 stands for none of them. */
    private static final int NONE = 0;

    /** More than there can be doors, so that a key orders by metres first and by door numbers then. */
    private static final int KEY_STEP = 64;

    /** Farther on than any door can be. */
    private static final int BEYOND_ALL = (LONGEST + 1) * KEY_STEP;

    /** More than twice the longest street, so that the right side, backward, comes behind the left one. */
    private static final int TURN = 2 * LONGEST + 1;

    private final Street[] allStreets = new Street[MOST_STREETS];
    private final Door[] allDoors = new Door[MOST_DOORS];
    private final OldAddresses oldAddresses = new OldAddresses();
    private final Ledger ledger = new Ledger();
    private final Order order = new Order();
    private int streetCount;
    private int doorCount;
    private long typed;
    private int today;

    public StreetNamer() {
        streetCount = 0;
        doorCount = 0;
        typed = Names.NO_NAME;
        today = 0;
    }

    // ---- names ----

    public int type(char letter) throws IllegalArgumentException, IllegalStateException {
        if (letter < 'a' || letter > 'z') {
            throw new IllegalArgumentException("not a small letter");
        }
        int count = Names.lengthOf(typed);
        if (count >= MOST_LETTERS) {
            throw new IllegalStateException("a name has no more letters");
        }
        typed = Names.longer(typed, letter);
        return count + 1;
    }

    public int wipe() {
        int count = Names.lengthOf(typed);
        typed = Names.NO_NAME;
        return count;
    }

    public int rename(int street) throws IndexOutOfBoundsException, UnsupportedOperationException {
        Street named = standing(street);
        if (typed == Names.NO_NAME || isInUse(typed)) {
            throw new UnsupportedOperationException("no name, or one in use");
        }
        rememberAll(named, named.firstName);
        named.firstName = typed;
        typed = Names.NO_NAME;
        return oldAddresses.count;
    }

    public int translate(int street) throws IndexOutOfBoundsException, UnsupportedOperationException {
        Street named = standing(street);
        if (isInUse(typed)) {
            throw new UnsupportedOperationException("a name in use");
        }
        rememberAll(named, named.secondName);
        named.secondName = typed;
        typed = Names.NO_NAME;
        return oldAddresses.count;
    }

    public char letter(int street, boolean isSecond, int index)
            throws IndexOutOfBoundsException, NoSuchElementException {
        Street named = standing(street);
        long name = isSecond ? named.secondName : named.firstName;
        if (index < 0 || index >= Names.lengthOf(name)) {
            throw new NoSuchElementException("no such letter");
        }
        return Names.letterOf(name, index);
    }

    // ---- streets ----

    public int street(int length, char way, boolean isBack)
            throws IllegalArgumentException, UnsupportedOperationException, IllegalStateException {
        if (!isWay(way) || length < SHORTEST || length > LONGEST) {
            throw new IllegalArgumentException("no such way or length");
        }
        if (typed == Names.NO_NAME || isInUse(typed)) {
            throw new UnsupportedOperationException("no name, or one in use");
        }
        int number = streetCount;
        if (number < 0 || number >= allStreets.length) {
            throw new IllegalStateException("no more streets");
        }
        allStreets[number] = new Street(number, typed, length, way, isBack);
        streetCount = number + 1;
        typed = Names.NO_NAME;
        return number;
    }

    public char way(int street, char way, boolean isBack)
            throws IndexOutOfBoundsException, IllegalArgumentException {
        Street told = standing(street);
        if (!isWay(way)) {
            throw new IllegalArgumentException("no such way");
        }
        char before = told.way;
        told.way = way;
        told.isBack = isBack;
        return before;
    }

    public int renumber(int street) throws IndexOutOfBoundsException, UnsupportedOperationException {
        Street renumbered = standing(street);
        ledger.open(renumbered, renumbered.length, 0);
        orderForRenumbering(renumbered);
        if (!enterInOrder(renumbered, 0)) {
            throw new UnsupportedOperationException("a door could not come");
        }
        renumbered.greatest = ledger.greatest;
        return takeNewCodes(renumbered);
    }

    public int join(int street, int other)
            throws IndexOutOfBoundsException, IllegalArgumentException, UnsupportedOperationException {
        Street stays = standing(street);
        Street goes = standing(other);
        int length = stays.length + goes.length;
        if (stays == goes || length > LONGEST) {
            throw new IllegalArgumentException("the same street, or too long");
        }
        openLedger(stays, length);
        orderForJoining(stays, goes);
        if (!enterInOrder(goes, stays.length)) {
            throw new UnsupportedOperationException("a door could not come");
        }
        rememberAll(goes);
        moveDoors(stays, goes);
        stays.greatest = ledger.greatest;
        stays.length = length;
        goes.isGone = true;
        return length;
    }

    public int streets() {
        int count = 0;
        for (Street street : allStreets) {
            if (isStanding(street)) {
                count++;
            }
        }
        return count;
    }

    // ---- doors ----

    public int door(int street, int metre, char side)
            throws IndexOutOfBoundsException, IllegalArgumentException,
            UnsupportedOperationException, IllegalStateException {
        Street on = standing(street);
        if (!isPlace(on, metre, side)) {
            throw new IllegalArgumentException("no such metre or side");
        }
        int number = doorCount;
        Place place = arrival(number, on, metre, side);
        if (place == null) {
            throw new UnsupportedOperationException("the door cannot come");
        }
        if (number < 0 || number >= allDoors.length) {
            throw new IllegalStateException("no more doors");
        }
        allDoors[number] = new Door(number, place);
        doorCount = number + 1;
        on.notice(place.code);
        return number;
    }

    public int corner(int door, int street, int metre, char side)
            throws IndexOutOfBoundsException, IllegalArgumentException, UnsupportedOperationException {
        Door turned = known(door);
        Street on = standing(street);
        if (!isPlace(on, metre, side)) {
            throw new IllegalArgumentException("no such metre or side");
        }
        if (turned.isGone || turned.second != null || turned.placeOn(on) != null) {
            throw new UnsupportedOperationException("no corner can be made of the door");
        }
        Place place = arrival(door, on, metre, side);
        if (place == null) {
            throw new UnsupportedOperationException("the door cannot come");
        }
        turned.second = place;
        on.notice(place.code);
        return place.code;
    }

    public int merge(int door, int other)
            throws IndexOutOfBoundsException, IllegalArgumentException, UnsupportedOperationException {
        Door goes = known(door);
        Door stays = known(other);
        if (goes == stays) {
            throw new IllegalArgumentException("the same door");
        }
        if (goes.isGone || stays.isGone) {
            throw new UnsupportedOperationException("one is gone");
        }
        letGo(goes);
        goes.leadsTo = stays;
        return leadingTo(stays);
    }

    public int remove(int door) throws IndexOutOfBoundsException, UnsupportedOperationException {
        Door goes = known(door);
        if (goes.isGone) {
            throw new UnsupportedOperationException("it is gone");
        }
        letGo(goes);
        return oldAddresses.count;
    }

    public int address(int door, boolean isCorner) throws IndexOutOfBoundsException, NoSuchElementException {
        Door asked = known(door);
        Place place = isCorner ? asked.second : asked.first;
        if (place == null) {
            throw new NoSuchElementException("no such address");
        }
        return place.code;
    }

    public int streetOf(int door, boolean isCorner) throws IndexOutOfBoundsException, NoSuchElementException {
        Door asked = known(door);
        Place place = isCorner ? asked.second : asked.first;
        if (place == null || place.street == null) {
            throw new NoSuchElementException("no such street");
        }
        return place.street.number;
    }

    public boolean isGone(int door) throws IndexOutOfBoundsException {
        return known(door).isGone;
    }

    public int doors(int street) throws IndexOutOfBoundsException {
        return doorsOn(standing(street));
    }

    // ---- days and letters ----

    public int day(int days) throws IllegalArgumentException {
        if (days < 1 || days > MOST_DAYS) {
            throw new IllegalArgumentException("no such number of days");
        }
        today = today + days;
        return today;
    }

    public int find(int code) throws NoSuchElementException {
        Door found = doorNow(typed, code);
        if (found == null) {
            throw new NoSuchElementException("no door has the address");
        }
        return found.number;
    }

    public int send(int code) throws NoSuchElementException, UnsupportedOperationException {
        Door now = doorNow(typed, code);
        if (now != null) {
            return now.number;
        }
        int row = oldAddresses.newest(typed, code);
        if (row < 0) {
            throw new NoSuchElementException("no such address, now or old");
        }
        Door end = endOf(doorAt(oldAddresses.doorIn(row)));
        if (end == null) {
            throw new UnsupportedOperationException("the letter is lost");
        }
        return end.number;
    }

    public int until(int code) throws NoSuchElementException {
        int row = oldAddresses.newest(typed, code);
        if (row < 0) {
            throw new NoSuchElementException("no such old address");
        }
        return oldAddresses.dayIn(row);
    }

    public int olds() {
        return oldAddresses.count;
    }

    // ---- walks ----

    public int walk(int street, int index) throws IndexOutOfBoundsException, NoSuchElementException {
        orderForWalking(standing(street));
        if (index < 0 || index >= order.count) {
            throw new NoSuchElementException("no such place in the walk");
        }
        return order.doorIn(index);
    }

    public int steps(int street) throws IndexOutOfBoundsException {
        Street walked = standing(street);
        orderForWalking(walked);
        int metres = 0;
        Place last = null;
        for (int i = 0; i < order.count; i++) {
            Place next = placeOf(doorAt(order.doorIn(i)), walked);
            if (last != null && next != null) {
                metres += Math.abs(next.metre - last.metre);
                metres += next.isLeft == last.isLeft ? 0 : CROSSING;
            }
            last = next;
        }
        return metres;
    }

    public int clashes(int street) throws IndexOutOfBoundsException {
        Street asked = standing(street);
        openLedger(asked, asked.length);
        return ledger.pairsAgainstOrder();
    }

    // ---- sums ----

    public float goneShare() throws ArithmeticException {
        int all = doorCount;
        if (all == 0) {
            throw new ArithmeticException("no doors");
        }
        int gone = 0;
        for (Door door : allDoors) {
            if (door != null && door.isGone) {
                gone++;
            }
        }
        return (float) gone / (float) all;
    }

    public double meanDoors() throws ArithmeticException {
        int count = 0;
        int sum = 0;
        for (Street street : allStreets) {
            if (isStanding(street)) {
                count++;
                sum += doorsOn(street);
            }
        }
        if (count == 0) {
            throw new ArithmeticException("no streets");
        }
        return (double) sum / (double) count;
    }

    public long checksum() {
        long sum = 7;
        for (Street street : allStreets) {
            if (isStanding(street)) {
                sum = 31 * sum + street.length;
                sum = 31 * sum + doorsOn(street);
            }
        }
        for (Door door : allDoors) {
            if (door != null) {
                sum = door.first == null ? sum : 31 * sum + door.first.code;
                sum = door.second == null ? sum : 31 * sum + door.second.code;
            }
        }
        return 31 * sum + oldAddresses.count;
    }

    public boolean isTrue() {
        return areAddressesSingle() && areAddressesThere() && areNamesSingle() && areLeadsEnding();
    }

    // ---- what the calls look at ----

    private static boolean isWay(char way) {
        return way == 's' || way == 'm' || way == 'y';
    }

    private static boolean isPlace(Street street, int metre, char side) {
        return metre >= 0 && metre <= street.length && (side == 'l' || side == 'r');
    }

    private static boolean isStanding(Street street) {
        return street != null && !street.isGone;
    }

    private Street standing(int number) {
        if (number < 0 || number >= allStreets.length || !isStanding(allStreets[number])) {
            throw new IndexOutOfBoundsException("no such street any more");
        }
        return allStreets[number];
    }

    private Door doorAt(int number) {
        if (number < 0 || number >= allDoors.length) {
            return null;
        }
        return allDoors[number];
    }

    private Door known(int number) {
        Door door = doorAt(number);
        if (door == null) {
            throw new IndexOutOfBoundsException("no such door");
        }
        return door;
    }

    private boolean isInUse(long name) {
        for (Street street : allStreets) {
            if (isStanding(street) && street.hasName(name)) {
                return true;
            }
        }
        return false;
    }

    private static Place placeOf(Door door, Street street) {
        return door == null ? null : door.placeOn(street);
    }

    private int doorsOn(Street street) {
        int count = 0;
        for (Door door : allDoors) {
            if (placeOf(door, street) != null) {
                count++;
            }
        }
        return count;
    }

    private Door doorNow(long name, int code) {
        for (Door door : allDoors) {
            if (door != null && door.hasAddress(name, code)) {
                return door;
            }
        }
        return null;
    }

    /** Answers where a door leads in the end, itself if it is not gone, null if that is lost. */
    private static Door endOf(Door door) {
        Door end = door;
        for (int step = 0; step < MOST_DOORS && end != null && end.isGone; step++) {
            end = end.leadsTo;
        }
        return end;
    }

    private int leadingTo(Door end) {
        int count = 0;
        for (Door door : allDoors) {
            if (door != null && door != end && endOf(door) == end) {
                count++;
            }
        }
        return count;
    }

    // ---- what the calls change ----

    private void remember(long name, Place place) {
        if (name != Names.NO_NAME && place != null) {
            oldAddresses.keep(name, place.code, place.door, today);
        }
    }

    private void rememberBoth(Place place) {
        if (place != null && place.street != null) {
            remember(place.street.firstName, place);
            remember(place.street.secondName, place);
        }
    }

    private void rememberAll(Street street, long name) {
        for (Door door : allDoors) {
            remember(name, placeOf(door, street));
        }
    }

    private void rememberAll(Street street) {
        for (Door door : allDoors) {
            rememberBoth(placeOf(door, street));
        }
    }

    private void letGo(Door door) {
        rememberBoth(door.first);
        rememberBoth(door.second);
        door.first = null;
        door.second = null;
        door.isGone = true;
    }

    /** Answers the place, with its address, that a door gets if it comes, null if it cannot come. */
    private Place arrival(int door, Street street, int metre, char side) {
        openLedger(street, street.length);
        boolean isLeft = side == 'l';
        int code = ledger.codeFor(door, metre, isLeft);
        return code == NONE ? null : new Place(door, street, metre, isLeft, code);
    }

    private void openLedger(Street street, int length) {
        ledger.open(street, length, street.greatest);
        for (Door door : allDoors) {
            Place place = placeOf(door, street);
            if (place != null) {
                ledger.enter(place.door, place.metre, place.isLeft, place.code);
            }
        }
    }

    /** Lets the ordered doors of a street come to the ledger's one, farther by some metres; tells whether all could. */
    private boolean enterInOrder(Street street, int metresMore) {
        for (int i = 0; i < order.count; i++) {
            Place place = placeOf(doorAt(order.doorIn(i)), street);
            if (place != null) {
                int metre = place.metre + metresMore;
                int code = ledger.codeFor(place.door, metre, place.isLeft);
                if (code == NONE) {
                    return false;
                }
                ledger.enter(place.door, metre, place.isLeft, code);
            }
        }
        return true;
    }

    private int takeNewCodes(Street street) {
        int changes = 0;
        for (Door door : allDoors) {
            Place place = placeOf(door, street);
            if (place != null && place.code != ledger.codeOf(place.door)) {
                rememberBoth(place);
                place.code = ledger.codeOf(place.door);
                changes++;
            }
        }
        return changes;
    }

    private void moveDoors(Street stays, Street goes) {
        for (Door door : allDoors) {
            Place place = placeOf(door, goes);
            if (door == null || place == null) {
                continue;
            }
            if (door.placeOn(stays) != null) {
                door.losePlaceOn(goes);
            } else {
                place.street = stays;
                place.metre = place.metre + stays.length;
                place.code = ledger.codeOf(place.door);
            }
        }
    }

    // ---- orders of doors ----

    private void orderForRenumbering(Street street) {
        order.clear();
        for (Door door : allDoors) {
            Place place = placeOf(door, street);
            if (place != null) {
                order.put(street.way == 'y' ? 0 : street.farness(place.metre), place.door);
            }
        }
    }

    private void orderForJoining(Street stays, Street goes) {
        order.clear();
        for (Door door : allDoors) {
            Place place = placeOf(door, goes);
            if (place != null && placeOf(door, stays) == null) {
                order.put(goes.farness(place.metre), place.door);
            }
        }
    }

    private void orderForWalking(Street street) {
        order.clear();
        for (Door door : allDoors) {
            Place place = placeOf(door, street);
            if (place != null) {
                order.put(place.isLeft ? place.metre : TURN - place.metre, place.door);
            }
        }
    }

    // ---- what isTrue checks ----

    private boolean areAddressesSingle() {
        for (Street street : allStreets) {
            if (isStanding(street)) {
                openLedger(street, street.length);
                if (ledger.hasTwins()) {
                    return false;
                }
            }
        }
        return true;
    }

    private boolean areAddressesThere() {
        for (Door door : allDoors) {
            if (door != null && !door.isGone && !door.hasAddressesAll()) {
                return false;
            }
        }
        return true;
    }

    private boolean areNamesSingle() {
        for (Street street : allStreets) {
            if (isStanding(street)) {
                if (street.firstName == street.secondName || isTakenByOther(street)) {
                    return false;
                }
            }
        }
        return true;
    }

    private boolean isTakenByOther(Street street) {
        for (Street other : allStreets) {
            if (isStanding(other) && other != street
                    && (other.hasName(street.firstName) || other.hasName(street.secondName))) {
                return true;
            }
        }
        return false;
    }

    private boolean areLeadsEnding() {
        for (Door door : allDoors) {
            Door end = endOf(door);
            // A chain is shorter than the doors are many: one that is still among the gone ones has no end.
            if (end != null && end.isGone) {
                return false;
            }
        }
        return true;
    }

    /** Names as numbers, five bits a letter, a being 1: two names are alike if their numbers are. */
    private static final class Names {
        static final long NO_NAME = 0L;
        static final int BITS = 5;
        static final int MASK = 31;

        static long longer(long name, char letter) {
            return (name << BITS) | (letter - 'a' + 1);
        }

        static int lengthOf(long name) {
            int length = 0;
            while (length < MOST_LETTERS && (name >> (length * BITS)) != 0) {
                length++;
            }
            return length;
        }

        static char letterOf(long name, int index) {
            int lettersBehind = lengthOf(name) - 1 - index;
            int letter = (int) (name >> (lettersBehind * BITS)) & MASK;
            return (char) ('a' - 1 + letter);
        }
    }

    private static final class Street {
        final int number;
        long firstName;
        long secondName;
        int length;
        char way;
        boolean isBack;
        boolean isGone;
        /** The greatest number given since the street was renumbered, or there. */
        int greatest;

        Street(int number, long name, int length, char way, boolean isBack) {
            this.number = number;
            this.firstName = name;
            this.secondName = Names.NO_NAME;
            this.length = length;
            this.way = way;
            this.isBack = isBack;
            this.isGone = false;
            this.greatest = 0;
        }

        boolean hasName(long name) {
            return name != Names.NO_NAME && (name == firstName || name == secondName);
        }

        int farness(int metre) {
            return isBack ? length - metre : metre;
        }

        void notice(int code) {
            greatest = Math.max(greatest, code / 10);
        }
    }

    /** Where a door is on a street, and its address there. */
    private static final class Place {
        final int door;
        Street street;
        int metre;
        final boolean isLeft;
        int code;

        Place(int door, Street street, int metre, boolean isLeft, int code) {
            this.door = door;
            this.street = street;
            this.metre = metre;
            this.isLeft = isLeft;
            this.code = code;
        }

        boolean isAddress(long name, int asked) {
            return asked == code && street != null && street.hasName(name);
        }
    }

    /** A door; one that is gone has no places. */
    private static final class Door {
        final int number;
        Place first;
        Place second;
        boolean isGone;
        Door leadsTo;

        Door(int number, Place first) {
            this.number = number;
            this.first = first;
            this.second = null;
            this.isGone = false;
            this.leadsTo = null;
        }

        Place placeOn(Street street) {
            if (first != null && first.street == street) {
                return first;
            }
            if (second != null && second.street == street) {
                return second;
            }
            return null;
        }

        boolean hasAddress(long name, int code) {
            return first != null && first.isAddress(name, code)
                    || second != null && second.isAddress(name, code);
        }

        boolean hasAddressesAll() {
            return first != null && first.code != NONE && isStanding(first.street)
                    && (second == null || second.code != NONE && isStanding(second.street));
        }

        void losePlaceOn(Street street) {
            if (first != null && first.street == street) {
                first = second;
            }
            second = null;
        }
    }

    /** The old addresses that are kept, in rows that the newest ones take over from the first ones. */
    private static final class OldAddresses {
        final long[] names = new long[MOST_OLDS];
        final int[] codes = new int[MOST_OLDS];
        final int[] doors = new int[MOST_OLDS];
        final int[] days = new int[MOST_OLDS];
        int count;
        int nextRow;

        OldAddresses() {
            count = 0;
            nextRow = 0;
        }

        void keep(long name, int code, int door, int day) {
            if (!isRow(nextRow)) {
                return;
            }
            names[nextRow] = name;
            codes[nextRow] = code;
            doors[nextRow] = door;
            days[nextRow] = day;
            nextRow = nextRow + 1 < MOST_OLDS ? nextRow + 1 : 0;
            count = Math.min(count + 1, MOST_OLDS);
        }

        /** Answers the row of the address that became old last, -1 if none did. */
        int newest(long name, int code) {
            for (int back = 1; back <= count; back++) {
                int row = nextRow - back < 0 ? nextRow - back + MOST_OLDS : nextRow - back;
                if (isRow(row) && names[row] == name && codes[row] == code) {
                    return row;
                }
            }
            return -1;
        }

        int doorIn(int row) {
            return isRow(row) ? doors[row] : -1;
        }

        int dayIn(int row) {
            return isRow(row) ? days[row] : 0;
        }

        private static boolean isRow(int row) {
            return row >= 0 && row < MOST_OLDS;
        }
    }

    /**
     * The addresses of one street while doors come to it: entered here, they count
     * for the next one, and the town stays as it is until it takes them over.
     */
    private static final class Ledger {
        /** How far on the doors are, by door numbers. */
        final int[] keys = new int[MOST_DOORS];
        final boolean[] lefts = new boolean[MOST_DOORS];
        /** By door numbers, NONE for those that have no address here, or not yet. */
        final int[] codes = new int[MOST_DOORS];
        char way;
        boolean isBack;
        int length;
        int greatest;

        Ledger() {
            way = 's';
            isBack = false;
            length = 0;
            greatest = 0;
        }

        void open(Street street, int newLength, int greatestYet) {
            Arrays.fill(codes, NONE);
            way = street.way;
            isBack = street.isBack;
            length = newLength;
            greatest = greatestYet;
        }

        void enter(int door, int metre, boolean isLeft, int code) {
            if (isRow(door)) {
                keys[door] = keyOf(door, metre);
                lefts[door] = isLeft;
                codes[door] = code;
                greatest = Math.max(greatest, code / 10);
            }
        }

        int codeOf(int door) {
            return isRow(door) ? codes[door] : NONE;
        }

        /** Answers the code that a door gets if it comes now, NONE if it cannot come. */
        int codeFor(int door, int metre, boolean isLeft) {
            if (way == 'm') {
                return codeByMetres(metresOn(metre), isLeft);
            }
            if (way == 'y') {
                return (greatest + 1) * 10;
            }
            return codeBySteps(keyOf(door, metre), isLeft);
        }

        private int codeByMetres(int metres, boolean isLeft) {
            int number = 2 * (metres / 10) + (isLeft ? 1 : 2);
            return isGiven(number * 10) ? codeWithLetter(number) : number * 10;
        }

        private int codeBySteps(int key, boolean isLeft) {
            int before = numberBefore(key, isLeft);
            int after = numberAfter(key, isLeft);
            int number = leastFree(before, after, isLeft);
            if (number != NONE) {
                return number * 10;
            }
            return codeWithLetter(before != NONE ? before : after);
        }

        private int leastFree(int before, int after, boolean isLeft) {
            int parity = isLeft ? 1 : 0;
            int least = before + 1;
            int number = (least & 1) == parity ? least : least + 1;
            // Each door can stand in the way of one number, so one more than the doors suffices.
            for (int tried = 0; tried <= MOST_DOORS; tried++) {
                if (after != NONE && number >= after) {
                    return NONE;
                }
                if (!isNumberGiven(number)) {
                    return number;
                }
                number += 2;
            }
            return NONE;
        }

        private int codeWithLetter(int number) {
            for (int letter = 1; letter <= LAST_LETTER; letter++) {
                int code = number * 10 + letter;
                if (!isGiven(code)) {
                    return code;
                }
            }
            return NONE;
        }

        /** Answers the number of the last door of a side that is less far on, NONE without such a one. */
        private int numberBefore(int key, boolean isLeft) {
            int number = NONE;
            int nearest = -1;
            for (int i = 0; i < MOST_DOORS; i++) {
                if (codes[i] != NONE && lefts[i] == isLeft && keys[i] < key && keys[i] > nearest) {
                    nearest = keys[i];
                    number = codes[i] / 10;
                }
            }
            return number;
        }

        /** Answers the number of the next door of a side that is farther on, NONE without such a one. */
        private int numberAfter(int key, boolean isLeft) {
            int number = NONE;
            int nearest = BEYOND_ALL;
            for (int i = 0; i < MOST_DOORS; i++) {
                if (codes[i] != NONE && lefts[i] == isLeft && keys[i] > key && keys[i] < nearest) {
                    nearest = keys[i];
                    number = codes[i] / 10;
                }
            }
            return number;
        }

        private boolean isGiven(int code) {
            for (int given : codes) {
                if (given == code) {
                    return true;
                }
            }
            return false;
        }

        private boolean isNumberGiven(int number) {
            for (int given : codes) {
                if (given != NONE && given / 10 == number) {
                    return true;
                }
            }
            return false;
        }

        int pairsAgainstOrder() {
            int pairs = 0;
            for (int i = 0; i < MOST_DOORS; i++) {
                for (int j = 0; j < MOST_DOORS; j++) {
                    if (codes[i] != NONE && codes[j] != NONE && lefts[i] == lefts[j]
                            && keys[i] < keys[j] && codes[i] > codes[j]) {
                        pairs++;
                    }
                }
            }
            return pairs;
        }

        boolean hasTwins() {
            for (int i = 0; i < MOST_DOORS; i++) {
                for (int j = 0; j < i; j++) {
                    if (codes[i] != NONE && codes[i] == codes[j]) {
                        return true;
                    }
                }
            }
            return false;
        }

        private int metresOn(int metre) {
            return isBack ? length - metre : metre;
        }

        private int keyOf(int door, int metre) {
            return metresOn(metre) * KEY_STEP + door;
        }

        private static boolean isRow(int door) {
            return door >= 0 && door < MOST_DOORS;
        }
    }

    /** Doors in an order: by a rank each, and by their numbers where the ranks are the same. */
    private static final class Order {
        final int[] keys = new int[MOST_DOORS];
        int count;

        Order() {
            count = 0;
        }

        void clear() {
            count = 0;
        }

        void put(int rank, int door) {
            int at = count;
            if (at < 0 || at >= keys.length) {
                return;
            }
            int key = rank * KEY_STEP + door;
            while (at > 0 && keys[at - 1] > key) {
                keys[at] = keys[at - 1];
                at--;
            }
            keys[at] = key;
            count++;
        }

        int doorIn(int index) {
            return index >= 0 && index < count && index < keys.length ? keys[index] % KEY_STEP : -1;
        }
    }
}
