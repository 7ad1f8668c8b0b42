import java.util.NoSuchElementException;

/** Each promise of the document: ordinary inputs, the edges that it names, and wrong inputs. */
public final class PromiseTest {
    private static final Class<IndexOutOfBoundsException> INDEX = IndexOutOfBoundsException.class;
    private static final Class<IllegalArgumentException> ARGUMENT = IllegalArgumentException.class;
    private static final Class<UnsupportedOperationException> UNSUPPORTED = UnsupportedOperationException.class;
    private static final Class<IllegalStateException> STATE = IllegalStateException.class;
    private static final Class<NoSuchElementException> NO_ELEMENT = NoSuchElementException.class;
    private static final Class<ArithmeticException> ARITHMETIC = ArithmeticException.class;
    private static final int[] NO_NUMBERS = {-1, 1, 12, 40, Integer.MIN_VALUE, Integer.MAX_VALUE};

    private PromiseTest() {
    }

    public static void main(String[] args) {
        newObject();
        typing();
        wiping();
        streetsAdded();
        renaming();
        translating();
        letters();
        ways();
        doorsAdded();
        doorsByMetres();
        doorsByBuilding();
        doorsBySteps();
        corners();
        cornersByBuilding();
        merging();
        removing();
        renumbering();
        renumberingRefused();
        joining();
        joiningByWays();
        joiningCorners();
        joiningRefused();
        days();
        addresses();
        streetsOfDoors();
        goneDoors();
        finding();
        sending();
        untils();
        oldAddresses();
        oldAddressesForgotten();
        orderOfBecomingOld();
        doorsOfStreets();
        walks();
        stepsOfWalks();
        clashesOfStreets();
        streetCounts();
        goneShares();
        meanDoors();
        checksums();
        truths();
        wrongNumbers();
        Check.end("PromiseTest");
    }

    private static void newObject() {
        StreetNamer town = new StreetNamer();
        Check.due("streets of a new town", town.streets(), 0);
        Check.due("olds of a new town", town.olds(), 0);
        Check.due("letters typed in a new town", town.wipe(), 0);
        Check.due("the first day after day 0", town.day(1), 1);
        Check.refused("a door of a new town", town, INDEX, () -> town.isGone(0));
        Check.refused("a street of a new town", town, INDEX, () -> town.doors(0));
    }

    private static void typing() {
        StreetNamer town = new StreetNamer();
        Check.due("type a", town.type('a'), 1);
        Check.due("type z", town.type('z'), 2);
        for (char wrong : new char[] {'A', 'Z', '`', '{', '0', ' ', (char) 0, (char) 233, (char) 0x161}) {
            Check.refused("type " + (int) wrong, town, ARGUMENT, () -> town.type(wrong));
        }
        for (int count = 3; count <= 7; count++) {
            Check.due("type", town.type('m'), count);
        }
        Check.refused("an eighth letter", town, STATE, () -> town.type('a'));
        Check.refused("an eighth letter that is none", town, ARGUMENT, () -> town.type('A'));
        town.street(10, 's', false);
        Check.due("the name that was typed", Check.nameOf(town, 0, false), "azmmmmm");
    }

    private static void wiping() {
        StreetNamer town = new StreetNamer();
        Check.typed(town, "abcdefg");
        Check.due("wipe 7", town.wipe(), 7);
        Check.due("wipe none", town.wipe(), 0);
        Check.due("type after wipe", town.type('b'), 1);
    }

    private static void streetsAdded() {
        StreetNamer town = new StreetNamer();
        Check.refused("street without a name", town, UNSUPPORTED, () -> town.street(10, 's', false));
        Check.refused("street without name and way", town, ARGUMENT, () -> town.street(10, 'S', false));
        Check.typed(town, "a");
        for (int length : new int[] {9, 1000, 0, -10, Integer.MAX_VALUE, Integer.MIN_VALUE}) {
            Check.refused("street of " + length, town, ARGUMENT, () -> town.street(length, 'm', true));
        }
        for (char way : "xlrSMY ".toCharArray()) {
            Check.refused("street numbered by " + way, town, ARGUMENT, () -> town.street(10, way, true));
        }
        Check.due("the shortest street", town.street(10, 's', false), 0);
        Check.due("letters after a street", town.wipe(), 0);
        Check.due("the longest street", Check.street(town, "b", 999, 'm', true), 1);
        Check.typed(town, "a");
        Check.refused("street with a name in use", town, UNSUPPORTED, () -> town.street(10, 'y', false));
        Check.due("the name stays typed behind that", town.wipe(), 1);
        Check.typed(town, "ab");
        town.translate(0);
        Check.typed(town, "ab");
        Check.refused("street with a second name in use", town, UNSUPPORTED, () -> town.street(10, 'y', false));
        for (int i = 2; i < 12; i++) {
            Check.due("street", Check.street(town, "c" + (char) ('a' + i), 20, 'y', false), i);
        }
        Check.typed(town, "a");
        Check.refused("13th street, name in use", town, UNSUPPORTED, () -> town.street(10, 'y', false));
        Check.typed(town, "z");
        Check.refused("13th street", town, STATE, () -> town.street(10, 'y', false));
        town.wipe();
        town.join(2, 3);
        Check.typed(town, "z");
        Check.refused("13th street with one gone", town, STATE, () -> town.street(10, 'y', false));
    }

    private static void renaming() {
        StreetNamer town = twoStreets();
        town.wipe();
        Check.refused("rename to nothing", town, UNSUPPORTED, () -> town.rename(0));
        for (String name : new String[] {"a", "b", "c"}) {
            Check.typed(town, name);
            Check.refused("rename to " + name, town, UNSUPPORTED, () -> town.rename(0));
        }
        Check.refused("rename of no street", town, INDEX, () -> town.rename(2));
        town.day(5);
        Check.typed(town, "new");
        Check.due("rename", town.rename(0), 2);
        Check.due("letters after rename", town.wipe(), 0);
        Check.due("the name then", Check.nameOf(town, 0, false), "new");
        Check.due("the second name stays", Check.nameOf(town, 0, true), "c");
        Check.due("find by the new name", Check.find(town, "new", 20), 1);
        Check.due("find by the second name", Check.find(town, "c", 10), 0);
        Check.due("send by the name before", Check.send(town, "a", 10), 0);
        Check.due("the day of it", Check.until(town, "a", 20), 5);
        Check.due("the second name did not become old", Check.until(town, "c", 10), "throws NoSuchElementException");
        Check.due("the name before can be used", Check.street(town, "a", 10, 's', false), 2);
    }

    private static void translating() {
        StreetNamer town = twoStreets();
        for (String name : new String[] {"a", "b", "c"}) {
            Check.typed(town, name);
            Check.refused("translate to " + name, town, UNSUPPORTED, () -> town.translate(0));
            Check.refused("translate of no street to " + name, town, INDEX, () -> town.translate(-1));
        }
        town.wipe();
        Check.due("no second name in place of none", town.translate(1), 0);
        Check.typed(town, "d");
        Check.due("a second name in place of none", town.translate(1), 0);
        Check.due("letters after translate", town.wipe(), 0);
        Check.typed(town, "e");
        Check.due("a second name in place of another", town.translate(0), 2);
        Check.due("send by the second name before", Check.send(town, "c", 20), 1);
        Check.due("find by the second name", Check.find(town, "e", 20), 1);
        town.wipe();
        Check.due("no second name", town.translate(0), 4);
        Check.due("the second name then", Check.nameOf(town, 0, true), "");
        Check.due("the first name stays", Check.nameOf(town, 0, false), "a");
        Check.due("the first name is not old", Check.until(town, "a", 10), "throws NoSuchElementException");
    }

    private static void letters() {
        StreetNamer town = new StreetNamer();
        Check.street(town, "azbycxd", 10, 's', false);
        Check.due("the whole name", Check.nameOf(town, 0, false), "azbycxd");
        Check.due("first letter", town.letter(0, false, 0), 'a');
        Check.due("last letter", town.letter(0, false, 6), 'd');
        Check.refused("letter 7", town, NO_ELEMENT, () -> town.letter(0, false, 7));
        Check.refused("letter -1", town, NO_ELEMENT, () -> town.letter(0, false, -1));
        Check.refused("no second name", town, NO_ELEMENT, () -> town.letter(0, true, 0));
        Check.refused("no street", town, INDEX, () -> town.letter(1, true, -1));
        Check.typed(town, "q");
        town.translate(0);
        Check.due("letter of the second name", town.letter(0, true, 0), 'q');
        Check.refused("letter 1 of it", town, NO_ELEMENT, () -> town.letter(0, true, 1));
        Check.refused("a great letter of it", town, NO_ELEMENT, () -> town.letter(0, true, Integer.MAX_VALUE));
    }

    private static void ways() {
        StreetNamer town = new StreetNamer();
        Check.street(town, "a", 95, 's', false);
        Check.due("way s before", town.way(0, 'y', false), 's');
        Check.due("way y before", town.way(0, 'm', true), 'y');
        Check.due("way m before", town.way(0, 'm', false), 'm');
        Check.refused("no such way", town, ARGUMENT, () -> town.way(0, 'x', true));
        Check.refused("no such street and way", town, INDEX, () -> town.way(1, 'x', true));
        Check.due("a refused way turns nothing", added(town, 0, 0, 'l'), 10);
        town.way(0, 'm', true);
        Check.due("doors that come go the new way", added(town, 0, 0, 'l'), 190);
        Check.due("doors that are there do not", town.address(0, false), 10);
        Check.due("the renumbering goes the new way", town.renumber(0), 2);
        Check.due("the first one", town.address(0, false), 190);
        Check.due("the second one", town.address(1, false), 191);
    }

    private static void doorsAdded() {
        StreetNamer town = new StreetNamer();
        Check.street(town, "a", 50, 'm', false);
        Check.due("a door at metre 0", town.door(0, 0, 'l'), 0);
        Check.due("a door at the end", town.door(0, 50, 'r'), 1);
        for (int metre : new int[] {-1, 51, Integer.MIN_VALUE, Integer.MAX_VALUE}) {
            Check.refused("a door at metre " + metre, town, ARGUMENT, () -> town.door(0, metre, 'l'));
        }
        for (char side : "LRsx ".toCharArray()) {
            Check.refused("a door on side " + side, town, ARGUMENT, () -> town.door(0, 0, side));
        }
        Check.refused("a door of no street", town, INDEX, () -> town.door(1, -1, 'x'));
        for (int i = 2; i < 11; i++) {
            town.door(0, 9, 'l');
        }
        Check.due("the last letter", town.address(10, false), 19);
        Check.refused("a door without a letter left", town, UNSUPPORTED, () -> town.door(0, 1, 'l'));
        town.way(0, 'y', false);
        for (int i = 11; i < 40; i++) {
            Check.due("door", town.door(0, 9, 'l'), i);
        }
        town.remove(39);
        Check.refused("a 41st door", town, STATE, () -> town.door(0, 9, 'l'));
        town.way(0, 'm', false);
        Check.refused("a 41st door that cannot come", town, UNSUPPORTED, () -> town.door(0, 9, 'l'));
        Check.refused("a 41st door at no metre", town, ARGUMENT, () -> town.door(0, 51, 'l'));
    }

    private static void doorsByMetres() {
        StreetNamer town = new StreetNamer();
        Check.street(town, "a", 999, 'm', false);
        Check.due("9 left", added(town, 0, 9, 'l'), 10);
        Check.due("9 right", added(town, 0, 9, 'r'), 20);
        Check.due("10 left", added(town, 0, 10, 'l'), 30);
        Check.due("999 left", added(town, 0, 999, 'l'), 1990);
        Check.due("999 right", added(town, 0, 999, 'r'), 2000);
        Check.due("12 left", added(town, 0, 12, 'l'), 31);
        Check.due("19 left", added(town, 0, 19, 'l'), 32);
        town.remove(5);
        Check.due("the first letter that is free", added(town, 0, 11, 'l'), 31);
        town.remove(2);
        Check.due("no letter if the number is free", added(town, 0, 11, 'l'), 30);
        Check.street(town, "b", 45, 'm', true);
        Check.due("from the other end", added(town, 1, 45, 'l'), 10);
        Check.due("cut", added(town, 1, 36, 'r'), 20);
        Check.due("at the end", added(town, 1, 0, 'r'), 100);
    }

    private static void doorsByBuilding() {
        StreetNamer town = new StreetNamer();
        Check.street(town, "a", 999, 'y', false);
        Check.due("first", added(town, 0, 500, 'l'), 10);
        Check.due("second", added(town, 0, 1, 'l'), 20);
        Check.due("third", added(town, 0, 500, 'l'), 30);
        town.remove(2);
        Check.due("a number of a door that is gone counts", added(town, 0, 9, 'r'), 40);
        town.way(0, 'm', false);
        Check.due("by metres", added(town, 0, 999, 'l'), 1990);
        town.remove(4);
        town.way(0, 'y', false);
        Check.due("after the greatest ever", added(town, 0, 0, 'l'), 2000);
        Check.due("renumber", town.renumber(0), 2);
        Check.due("of the fourth", town.address(3, false), 30);
        Check.due("of the last", town.address(5, false), 40);
        town.remove(5);
        Check.due("after the greatest since then", added(town, 0, 0, 'l'), 50);
        Check.due("a refused corner gives no number", Check.outcome(() -> town.corner(6, 0, 0, 'l')),
                "throws UnsupportedOperationException");
        Check.due("so the next one", added(town, 0, 0, 'l'), 60);
    }

    private static void doorsBySteps() {
        StreetNamer town = new StreetNamer();
        Check.street(town, "a", 200, 's', false);
        Check.due("first left", added(town, 0, 50, 'l'), 10);
        Check.due("first right", added(town, 0, 50, 'r'), 20);
        Check.due("left behind", added(town, 0, 60, 'l'), 30);
        Check.due("left between, no gap", added(town, 0, 55, 'l'), 11);
        Check.due("left ahead, no number", added(town, 0, 5, 'l'), 12);
        Check.due("right ahead, no number", added(town, 0, 5, 'r'), 21);
        Check.due("left far behind", added(town, 0, 190, 'l'), 50);
        town.remove(2);
        Check.due("the gap of one that is gone", added(town, 0, 61, 'l'), 30);
        Check.due("at the metre of another one, behind it", added(town, 0, 50, 'r'), 40);
        town.remove(0);
        town.remove(3);
        Check.due("a number given with a letter is given", added(town, 0, 6, 'l'), 11);
        Check.due("no letter without a number", Check.outcome(() -> Check.find(town, "a", 10)),
                "throws NoSuchElementException");
        town.remove(4);
        town.remove(9);
        Check.due("a number that no letter has", added(town, 0, 50, 'l'), 10);
        Check.street(town, "b", 100, 's', true);
        Check.due("from the other end", added(town, 1, 10, 'l'), 10);
        Check.due("ahead of that", added(town, 1, 90, 'l'), 11);
        Check.due("behind that", added(town, 1, 0, 'l'), 30);
        Check.due("at the same metre, a higher number is farther on", added(town, 1, 90, 'l'), 12);
        stepsThroughOtherWays();
        stepsWithoutLetters();
    }

    private static void stepsThroughOtherWays() {
        StreetNamer town = new StreetNamer();
        Check.street(town, "a", 200, 'y', false);
        for (int i = 0; i < 6; i++) {
            town.door(0, 100 - 10 * i, 'l');
        }
        town.way(0, 's', false);
        Check.due("the least odd number above an even one", added(town, 0, 150, 'l'), 70);
        Check.due("between 2 and 1: the number of the last one", added(town, 0, 95, 'l'), 21);
        Check.due("ahead of 6: the least that is not given", Check.outcome(() -> added(town, 0, 1, 'l')), 61);
        Check.due("the right side has its own", added(town, 0, 95, 'r'), 80);
        town.remove(2);
        town.remove(3);
        Check.due("ahead of 6, 3 free", added(town, 0, 2, 'l'), 62);
    }

    private static void stepsWithoutLetters() {
        StreetNamer town = new StreetNamer();
        Check.street(town, "a", 200, 's', false);
        town.door(0, 0, 'l');
        town.door(0, 200, 'l');
        for (int i = 1; i <= 9; i++) {
            Check.due("between, with letters", added(town, 0, 200 - i, 'l'), 10 + i);
        }
        Check.refused("no letter is left", town, UNSUPPORTED, () -> town.door(0, 1, 'l'));
        town.remove(5);
        Check.due("a letter that is free again", added(town, 0, 1, 'l'), 14);
    }

    private static void corners() {
        StreetNamer town = new StreetNamer();
        Check.street(town, "a", 50, 's', false);
        Check.street(town, "b", 30, 'm', true);
        Check.street(town, "c", 30, 's', false);
        town.door(0, 10, 'l');
        town.door(0, 20, 'l');
        town.door(1, 30, 'r');
        Check.due("corner", town.corner(0, 1, 10, 'l'), 50);
        Check.due("corner with a letter", town.corner(1, 1, 25, 'r'), 21);
        Check.refused("a corner again", town, UNSUPPORTED, () -> town.corner(0, 2, 0, 'l'));
        Check.refused("a corner of its own street", town, UNSUPPORTED, () -> town.corner(2, 1, 0, 'l'));
        Check.refused("a corner at no metre", town, ARGUMENT, () -> town.corner(2, 1, 31, 'l'));
        Check.refused("a corner before metre 0", town, ARGUMENT, () -> town.corner(2, 0, -1, 'l'));
        Check.refused("a corner on no side", town, ARGUMENT, () -> town.corner(2, 0, 1, 'x'));
        Check.refused("a corner of no door", town, INDEX, () -> town.corner(3, 0, -1, 'l'));
        Check.refused("a corner of no street", town, INDEX, () -> town.corner(2, 3, -1, 'l'));
        town.door(2, 10, 'r');
        town.door(2, 10, 'r');
        Check.due("a lower number is less far on at the same metre", town.corner(2, 2, 10, 'r'), 21);
        town.remove(4);
        Check.refused("a corner of a door that is gone", town, UNSUPPORTED, () -> town.corner(4, 0, 1, 'r'));
        Check.refused("that at no metre", town, ARGUMENT, () -> town.corner(4, 0, 51, 'r'));
        for (int i = 0; i < 9; i++) {
            town.door(1, 15, 'l');
        }
        town.door(1, 15, 'l');
        town.door(0, 0, 'r');
        Check.refused("a corner without a letter left", town, UNSUPPORTED, () -> town.corner(15, 1, 15, 'l'));
    }

    private static void cornersByBuilding() {
        StreetNamer town = new StreetNamer();
        Check.street(town, "a", 999, 'y', false);
        Check.street(town, "b", 999, 'y', true);
        town.door(0, 999, 'l');
        town.door(1, 0, 'l');
        Check.due("corner by building", town.corner(0, 1, 999, 'r'), 20);
        Check.due("left goes first, up to the last metre", town.walk(1, 0), 1);
        Check.due("right goes then, from the last metre on", town.walk(1, 1), 0);
        town.remove(0);
        Check.due("the number of a corner that is gone counts", added(town, 1, 5, 'l'), 30);
    }

    private static void merging() {
        StreetNamer town = twoStreets();
        town.door(1, 9, 'l');
        town.door(1, 9, 'r');
        town.corner(2, 0, 30, 'l');
        town.day(3);
        Check.refused("merge with itself", town, ARGUMENT, () -> town.merge(2, 2));
        Check.refused("merge of no door", town, INDEX, () -> town.merge(4, 4));
        Check.refused("merge into no door", town, INDEX, () -> town.merge(0, -1));
        Check.due("merge", town.merge(2, 1), 1);
        Check.due("old addresses of both streets, of all names", town.olds(), 3);
        Check.due("of the first street", Check.until(town, "b", 10), 3);
        Check.due("of the corner's", Check.send(town, "c", 30), 1);
        Check.due("merge into the same", town.merge(3, 1), 2);
        Check.due("merge over others", town.merge(1, 0), 3);
        Check.due("send over others", Check.send(town, "b", 20), 0);
        Check.refused("merge of one that is gone", town, UNSUPPORTED, () -> town.merge(1, 0));
        Check.refused("merge into one that is gone", town, UNSUPPORTED, () -> town.merge(0, 1));
        Check.refused("merge of one that is gone with itself", town, ARGUMENT, () -> town.merge(1, 1));
        Check.refused("an address of one that is gone", town, NO_ELEMENT, () -> town.address(2, true));
        Check.due("the street keeps the other one", town.doors(0), 1);
    }

    private static void removing() {
        StreetNamer town = twoStreets();
        town.corner(0, 1, 3, 'r');
        Check.refused("remove no door", town, INDEX, () -> town.remove(2));
        Check.due("remove a corner", town.remove(0), 3);
        Check.refused("remove it again", town, UNSUPPORTED, () -> town.remove(0));
        Check.due("its letters are lost", Check.send(town, "b", 20), "throws UnsupportedOperationException");
        Check.due("remove another", town.remove(1), 5);
        Check.due("doors that come have higher numbers", town.door(0, 0, 'l'), 2);
    }

    private static void renumbering() {
        StreetNamer town = twoStreets();
        town.door(0, 5, 'l');
        town.door(0, 30, 'l');
        Check.due("a letter ahead", town.address(2, false), 11);
        town.day(8);
        Check.refused("renumber no street", town, INDEX, () -> town.renumber(2));
        Check.due("renumber", town.renumber(0), 3);
        Check.due("the least far one", town.address(2, false), 10);
        Check.due("the next one", town.address(0, false), 30);
        Check.due("the last one", town.address(3, false), 50);
        Check.due("the other side", town.address(1, false), 20);
        Check.due("old addresses by both names", town.olds(), 6);
        Check.due("the day", Check.until(town, "c", 11), 8);
        Check.due("what did not change is not old", Check.until(town, "a", 20), "throws NoSuchElementException");
        Check.due("renumber again", town.renumber(0), 0);
        town.way(0, 'y', true);
        Check.due("renumber by building", town.renumber(0), 3);
        Check.due("by numbers", town.address(3, false), 40);
        town.way(0, 'm', true);
        Check.due("renumber by metres from the end", town.renumber(0), 4);
        Check.due("the door at 30 of 60", town.address(3, false), 70);
        town.way(0, 's', true);
        Check.due("renumber by steps from the end", town.renumber(0), 4);
        Check.due("then the first", town.address(3, false), 10);
        Check.due("then the second", town.address(0, false), 30);
        Check.due("then the third", town.address(2, false), 50);
        Check.due("a street without doors", town.renumber(1), 0);
    }

    private static void renumberingRefused() {
        StreetNamer town = new StreetNamer();
        Check.street(town, "a", 50, 'y', false);
        for (int i = 0; i < 11; i++) {
            town.door(0, i == 0 ? 40 : 5, 'l');
        }
        town.remove(3);
        town.door(0, 5, 'l');
        town.way(0, 'm', false);
        Check.due("ten doors can have a number with letters", town.renumber(0), 11);
        town.way(0, 'y', false);
        town.door(0, 0, 'l');
        Check.due("a number since the renumbering", town.address(12, false), 100);
        town.way(0, 'm', false);
        Check.refused("eleven cannot", town, UNSUPPORTED, () -> town.renumber(0));
        town.way(0, 'y', false);
        Check.due("a refused renumbering forgets no number", added(town, 0, 0, 'r'), 110);
    }

    private static void joining() {
        StreetNamer town = new StreetNamer();
        Check.street(town, "a", 40, 's', false);
        Check.street(town, "b", 30, 'y', true);
        town.door(0, 40, 'l');
        town.door(1, 5, 'l');
        town.door(1, 25, 'l');
        town.door(1, 25, 'r');
        town.day(4);
        Check.refused("join with no street", town, INDEX, () -> town.join(0, 2));
        Check.refused("join no street", town, INDEX, () -> town.join(-1, 1));
        Check.refused("join with itself", town, ARGUMENT, () -> town.join(1, 1));
        Check.due("join", town.join(0, 1), 70);
        Check.due("the one less far by the way of the one gone came first", town.address(2, false), 30);
        Check.due("the other one had no gap then", town.address(1, false), 11);
        Check.due("the right one", town.address(3, false), 20);
        Check.due("the one that was there", town.address(0, false), 10);
        Check.due("at metres 45 and 65", town.steps(0), 25 + 5);
        Check.due("old addresses", town.olds(), 3);
        Check.due("send by the name that is gone", Check.send(town, "b", 20), 2);
        Check.due("the day", Check.until(town, "b", 30), 4);
        Check.due("the street", town.streetOf(3, false), 0);
        Check.due("the new end", town.door(0, 70, 'r'), 4);
        Check.refused("behind it", town, ARGUMENT, () -> town.door(0, 71, 'r'));
        Check.refused("the street that is gone", town, INDEX, () -> town.doors(1));
        Check.refused("join it again", town, INDEX, () -> town.join(0, 1));
        Check.due("its name can be used", Check.street(town, "b", 930, 's', false), 2);
        Check.refused("too long by one", town, ARGUMENT, () -> town.join(0, 2));
        Check.due("a street of 10", Check.street(town, "c", 10, 's', false), 3);
        Check.due("joined twice", town.join(0, 3), 80);
        Check.street(town, "d", 919, 'm', true);
        Check.due("the longest one", town.join(0, 4), 999);
    }

    private static void joiningByWays() {
        StreetNamer town = new StreetNamer();
        Check.street(town, "a", 40, 'm', true);
        Check.street(town, "b", 30, 's', false);
        town.door(0, 40, 'l');
        Check.due("from the end before", town.address(0, false), 10);
        town.door(1, 30, 'l');
        town.door(1, 0, 'l');
        town.join(0, 1);
        Check.due("from the new end", town.address(1, false), 11);
        Check.due("30 metres from the new end", town.address(2, false), 70);
        Check.due("the one that was there keeps its address", town.address(0, false), 10);
        Check.due("the next one by the longer street", added(town, 0, 41, 'l'), 50);
        Check.street(town, "c", 10, 'y', false);
        town.door(2, 3, 'r');
        town.remove(2);
        town.way(0, 'y', false);
        town.join(0, 2);
        Check.due("by building behind the greatest ever", town.address(4, false), 80);
    }

    private static void joiningCorners() {
        StreetNamer town = new StreetNamer();
        Check.street(town, "a", 40, 's', false);
        Check.street(town, "b", 30, 's', false);
        Check.street(town, "c", 20, 's', false);
        Check.typed(town, "bb");
        town.translate(1);
        town.door(0, 0, 'l');
        town.corner(0, 1, 10, 'l');
        town.door(1, 20, 'l');
        town.corner(1, 0, 30, 'r');
        town.door(1, 30, 'l');
        town.corner(2, 2, 0, 'r');
        town.door(2, 5, 'l');
        town.corner(3, 1, 5, 'r');
        town.join(0, 1);
        Check.due("first there: keeps it", town.address(0, false), 10);
        Check.refused("no corner then", town, NO_ELEMENT, () -> town.address(0, true));
        Check.due("corner there: has it as the first", town.address(1, false), 20);
        Check.due("on the street that stays", town.streetOf(1, false), 0);
        Check.refused("that is no corner either", town, NO_ELEMENT, () -> town.streetOf(1, true));
        Check.due("a corner with a third street stays one", town.streetOf(2, true), 2);
        Check.due("and comes with its first place", town.address(2, false), 30);
        Check.due("a corner of a third street comes, too", town.streetOf(3, true), 0);
        Check.due("with an address", town.address(3, true), 40);
        Check.due("doors of it", town.doors(0), 4);
        Check.due("old addresses, both names", town.olds(), 8);
        Check.due("of the one that lost its place", Check.send(town, "bb", 10), 0);
        Check.due("it can be a corner again", town.corner(0, 2, 20, 'l'), 30);
    }

    private static void joiningRefused() {
        StreetNamer town = new StreetNamer();
        Check.street(town, "a", 15, 'm', false);
        Check.street(town, "b", 984, 'y', false);
        for (int i = 0; i < 6; i++) {
            town.door(0, 12, 'l');
            town.door(1, 2, 'l');
        }
        Check.refused("join without letters left", town, UNSUPPORTED, () -> town.join(0, 1));
        Check.refused("a metre of the longer street", town, ARGUMENT, () -> town.door(0, 16, 'l'));
        town.way(0, 'y', false);
        Check.due("a refused join gives no numbers", added(town, 0, 0, 'l'), 40);
        Check.due("join then", town.join(0, 1), 999);
    }

    private static void days() {
        StreetNamer town = new StreetNamer();
        Check.due("a day", town.day(1), 1);
        Check.due("most days", town.day(9999), 10000);
        for (int days : new int[] {0, -1, 10000, Integer.MAX_VALUE, Integer.MIN_VALUE}) {
            Check.refused("days " + days, town, ARGUMENT, () -> town.day(days));
        }
        Check.due("a day more", town.day(1), 10001);
    }

    private static void addresses() {
        StreetNamer town = twoStreets();
        Check.due("address", town.address(0, false), 10);
        Check.refused("no corner", town, NO_ELEMENT, () -> town.address(0, true));
        Check.due("corner", town.corner(0, 1, 0, 'r'), 20);
        Check.due("address there", town.address(0, true), 20);
        town.remove(0);
        Check.refused("gone", town, NO_ELEMENT, () -> town.address(0, false));
        Check.refused("gone there", town, NO_ELEMENT, () -> town.address(0, true));
        Check.refused("no door", town, INDEX, () -> town.address(2, true));
    }

    private static void streetsOfDoors() {
        StreetNamer town = twoStreets();
        town.corner(1, 1, 0, 'r');
        Check.due("street", town.streetOf(1, false), 0);
        Check.due("other street", town.streetOf(1, true), 1);
        Check.refused("no other street", town, NO_ELEMENT, () -> town.streetOf(0, true));
        Check.refused("no door", town, INDEX, () -> town.streetOf(2, true));
        town.merge(1, 0);
        Check.refused("no street of one that is gone", town, NO_ELEMENT, () -> town.streetOf(1, false));
    }

    private static void goneDoors() {
        StreetNamer town = twoStreets();
        Check.due("not gone", town.isGone(0), false);
        town.remove(0);
        Check.due("removed", town.isGone(0), true);
        town.door(0, 1, 'l');
        town.merge(1, 2);
        Check.due("merged", town.isGone(1), true);
        Check.due("merged into", town.isGone(2), false);
        Check.refused("no door", town, INDEX, () -> town.isGone(3));
    }

    private static void finding() {
        StreetNamer town = twoStreets();
        town.corner(1, 1, 8, 'l');
        Check.due("by the first name", Check.find(town, "a", 20), 1);
        Check.due("the name stays typed", town.find(10), 0);
        Check.due("by the second name", Check.find(town, "c", 10), 0);
        Check.due("at the corner", Check.find(town, "b", 10), 1);
        for (int code : new int[] {20, 11, 1, 0, -10, Integer.MIN_VALUE, Integer.MAX_VALUE}) {
            Check.refused("code " + code, town, NO_ELEMENT, () -> town.find(code));
        }
        town.wipe();
        Check.refused("nothing typed", town, NO_ELEMENT, () -> town.find(10));
        Check.typed(town, "aa");
        Check.refused("no such name", town, NO_ELEMENT, () -> town.find(10));
        town.remove(0);
        Check.typed(town, "a");
        Check.refused("gone", town, NO_ELEMENT, () -> town.find(10));
        Check.due("the name is still typed", town.wipe(), 1);
    }

    private static void sending() {
        StreetNamer town = twoStreets();
        Check.due("now", Check.send(town, "a", 10), 0);
        town.merge(0, 1);
        Check.due("to where it leads", Check.send(town, "a", 10), 1);
        Check.due("door with the old address", town.door(0, 0, 'l'), 2);
        Check.due("the address now goes before", Check.send(town, "a", 10), 2);
        town.remove(2);
        Check.due("what became old last is lost", Check.send(town, "a", 10), "throws UnsupportedOperationException");
        town.door(0, 0, 'l');
        town.merge(3, 1);
        Check.due("what became old last leads", Check.send(town, "c", 10), 1);
        town.remove(1);
        Check.due("lost over others", Check.send(town, "c", 10), "throws UnsupportedOperationException");
        Check.due("the name stays typed", town.wipe(), 1);
        Check.typed(town, "b");
        Check.refused("never an address", town, NO_ELEMENT, () -> town.send(10));
        town.wipe();
        Check.refused("nothing typed", town, NO_ELEMENT, () -> town.send(0));
    }

    private static void untils() {
        StreetNamer town = twoStreets();
        Check.due("never old", Check.until(town, "a", 10), "throws NoSuchElementException");
        town.remove(0);
        Check.due("on the day 0", Check.until(town, "a", 10), 0);
        town.day(9);
        town.door(0, 0, 'l');
        Check.due("the address now changes nothing", Check.until(town, "a", 10), 0);
        town.remove(2);
        Check.due("the last time", Check.until(town, "c", 10), 9);
        Check.due("the name stays typed", town.until(10), 9);
        Check.refused("another code", town, NO_ELEMENT, () -> town.until(30));
        town.wipe();
        Check.refused("nothing typed", town, NO_ELEMENT, () -> town.until(10));
    }

    private static void oldAddresses() {
        StreetNamer town = twoStreets();
        Check.due("none", town.olds(), 0);
        town.remove(0);
        Check.due("two names", town.olds(), 2);
        town.wipe();
        town.translate(0);
        Check.due("the other door", town.olds(), 3);
        town.remove(1);
        Check.due("one name", town.olds(), 4);
    }

    private static void oldAddressesForgotten() {
        StreetNamer town = new StreetNamer();
        Check.street(town, "x", 999, 'y', false);
        for (int i = 0; i < 38; i++) {
            town.door(0, i, 'l');
        }
        for (int i = 1; i <= 5; i++) {
            Check.typed(town, "y" + (char) ('a' + i));
            Check.due("rename", town.rename(0), 38 * i);
        }
        Check.due("none is forgotten yet", Check.until(town, "x", 10), 0);
        Check.typed(town, "z");
        Check.due("no more than 200", town.rename(0), 200);
        Check.due("olds", town.olds(), 200);
        Check.due("the last one that is forgotten", Check.until(town, "x", 280), "throws NoSuchElementException");
        Check.due("it can get no letter", Check.send(town, "x", 280), "throws NoSuchElementException");
        Check.due("the first one that is not", Check.until(town, "x", 290), 0);
        Check.due("the newest one", Check.send(town, "yf", 380), 37);
        Check.typed(town, "x");
        town.translate(0);
        town.day(2);
        Check.due("remove", town.remove(0), 200);
        Check.due("the first name first", Check.until(town, "x", 300), "throws NoSuchElementException");
        Check.due("the next one", Check.until(town, "x", 310), 0);
        Check.due("both names", Check.until(town, "x", 10), 2);
    }

    /** The order in which addresses become old shows in which of them are forgotten first. */
    private static void orderOfBecomingOld() {
        StreetNamer town = new StreetNamer();
        Check.street(town, "a", 99, 'y', false);
        Check.typed(town, "b");
        town.translate(0);
        town.door(0, 9, 'l');
        town.door(0, 5, 'l');
        Check.street(town, "c", 99, 'y', false);
        town.corner(0, 1, 5, 'l');
        town.way(0, 's', false);
        Check.due("renumber", town.renumber(0), 2);
        town.merge(0, 1);
        Check.due("by doors and names, then by streets", town.olds(), 7);
        String[] names = {"a", "b", "a", "b", "a", "b", "c"};
        int[] codes = {10, 10, 20, 20, 30, 30, 10};
        Check.street(town, "d", 99, 'y', false);
        for (int i = 0; i < 20; i++) {
            town.door(2, 9, 'r');
        }
        int before = 7;
        for (int i = 0; i < 9; i++) {
            Check.typed(town, "e" + (char) ('a' + i));
            before = town.rename(2);
        }
        Check.due("before any is forgotten", before, 187);
        for (int i = 0; i < 13; i++) {
            town.remove(town.door(2, 9, 'r'));
        }
        Check.due("just before any is forgotten", town.olds(), 200);
        for (int i = 0; i < names.length; i++) {
            Check.due("not yet " + i, Check.until(town, names[i], codes[i]), 0);
            town.remove(2 + i);
            Check.due("forgotten " + i, Check.until(town, names[i], codes[i]), "throws NoSuchElementException");
        }
    }

    private static void doorsOfStreets() {
        StreetNamer town = twoStreets();
        Check.due("doors", town.doors(0), 2);
        Check.due("no doors", town.doors(1), 0);
        town.corner(0, 1, 0, 'l');
        Check.due("corners count", town.doors(1), 1);
        town.remove(0);
        Check.due("gone here", town.doors(0), 1);
        Check.due("gone there", town.doors(1), 0);
        Check.refused("no street", town, INDEX, () -> town.doors(2));
    }

    private static void walks() {
        StreetNamer town = new StreetNamer();
        Check.street(town, "a", 100, 'y', true);
        Check.street(town, "b", 100, 'y', true);
        int[][] places = {{50, 'r'}, {90, 'l'}, {10, 'l'}, {50, 'r'}, {10, 'l'}, {0, 'r'}, {100, 'r'}};
        for (int[] place : places) {
            town.door(0, place[0], (char) place[1]);
        }
        town.door(1, 0, 'l');
        town.corner(7, 0, 50, 'l');
        int[] walk = {2, 4, 7, 1, 6, 0, 3, 5};
        for (int i = 0; i < walk.length; i++) {
            Check.due("place " + i, town.walk(0, i), walk[i]);
        }
        Check.due("the other street", town.walk(1, 0), 7);
        for (int index : new int[] {8, -1, Integer.MIN_VALUE, Integer.MAX_VALUE}) {
            Check.refused("place " + index, town, NO_ELEMENT, () -> town.walk(0, index));
        }
        Check.refused("no street", town, INDEX, () -> town.walk(2, -1));
        Check.due("steps of it", town.steps(0), 80 + 10 + 100 + 5);
        town.way(0, 's', false);
        Check.due("whichever way it goes", town.walk(0, 0), 2);
        town.remove(2);
        Check.due("without those that are gone", town.walk(0, 0), 4);
    }

    private static void stepsOfWalks() {
        StreetNamer town = new StreetNamer();
        Check.street(town, "a", 100, 'y', false);
        Check.due("no doors", town.steps(0), 0);
        town.door(0, 70, 'r');
        Check.due("a door", town.steps(0), 0);
        town.door(0, 20, 'r');
        Check.due("one side", town.steps(0), 50);
        town.door(0, 70, 'l');
        Check.due("both sides", town.steps(0), 55);
        town.door(0, 10, 'l');
        Check.due("four doors", town.steps(0), 60 + 0 + 50 + 5);
        Check.refused("no street", town, INDEX, () -> town.steps(1));
    }

    private static void clashesOfStreets() {
        StreetNamer town = new StreetNamer();
        Check.street(town, "a", 100, 'y', false);
        Check.due("no doors", town.clashes(0), 0);
        town.door(0, 90, 'l');
        town.door(0, 50, 'l');
        town.door(0, 10, 'l');
        Check.due("all three pairs, the first door's two among them", town.clashes(0), 3);
        town.remove(1);
        Check.due("the first door's pair", town.clashes(0), 1);
        town.door(0, 50, 'l');
        Check.due("4 behind 3 is no clash, but behind them is 1", town.clashes(0), 2);
        town.door(0, 0, 'r');
        Check.due("the other side aside", town.clashes(0), 2);
        town.door(0, 10, 'l');
        Check.due("at the same metre by numbers", town.clashes(0), 2 + 2);
        town.way(0, 'y', true);
        Check.due("from the other end", town.clashes(0), 1);
        town.way(0, 'm', false);
        town.door(0, 0, 'r');
        Check.due("the right side", town.clashes(0), 4 + 1);
        town.way(0, 's', false);
        town.renumber(0);
        Check.due("renumbered", town.clashes(0), 0);
        Check.due("a door between with a letter", added(town, 0, 60, 'l'), 51);
        Check.due("no clash", town.clashes(0), 0);
        Check.due("a door ahead with a letter", added(town, 0, 5, 'l'), 11);
        Check.due("by codes", town.clashes(0), 1);
        Check.refused("no street", town, INDEX, () -> town.clashes(1));
    }

    private static void streetCounts() {
        StreetNamer town = twoStreets();
        Check.due("two", town.streets(), 2);
        town.join(1, 0);
        Check.due("one gone", town.streets(), 1);
        Check.street(town, "z", 10, 's', false);
        Check.due("one more", town.streets(), 2);
    }

    private static void goneShares() {
        StreetNamer town = new StreetNamer();
        Check.refused("no doors", town, ARITHMETIC, () -> town.goneShare());
        Check.street(town, "a", 100, 'y', false);
        Check.refused("no doors yet", town, ARITHMETIC, () -> town.goneShare());
        town.door(0, 0, 'l');
        town.door(0, 0, 'l');
        town.door(0, 0, 'l');
        Check.due("none gone", town.goneShare(), 0f);
        town.remove(0);
        Check.due("a third", town.goneShare(), 1f / 3f);
        town.merge(1, 2);
        Check.due("two thirds", town.goneShare(), 2f / 3f);
        town.remove(2);
        Check.due("all", town.goneShare(), 1f);
    }

    private static void meanDoors() {
        StreetNamer town = new StreetNamer();
        Check.refused("no streets", town, ARITHMETIC, () -> town.meanDoors());
        Check.street(town, "a", 100, 'y', false);
        Check.due("no doors", town.meanDoors(), 0.0);
        Check.street(town, "b", 100, 'y', false);
        Check.street(town, "c", 100, 'y', false);
        town.door(0, 0, 'l');
        Check.due("a third", town.meanDoors(), 1.0 / 3.0);
        town.corner(0, 1, 0, 'l');
        Check.due("a corner counts on both", town.meanDoors(), 2.0 / 3.0);
        town.join(0, 1);
        Check.due("streets that are gone do not count", town.meanDoors(), 0.5);
        town.remove(0);
        Check.due("doors that are gone do not count", town.meanDoors(), 0.0);
    }

    private static void checksums() {
        StreetNamer town = new StreetNamer();
        Check.due("empty", town.checksum(), 31L * 7);
        Check.street(town, "a", 100, 'm', false);
        Check.due("a street", town.checksum(), sum(100, 0, 0));
        Check.street(town, "b", 50, 'm', false);
        town.door(1, 13, 'r');
        town.corner(0, 0, 25, 'l');
        Check.due("a corner", town.checksum(), sum(100, 1, 50, 1, 40, 50, 0));
        town.door(0, 0, 'r');
        town.remove(1);
        Check.due("one gone", town.checksum(), sum(100, 1, 50, 1, 40, 50, 1));
        town.join(1, 0);
        Check.due("one street gone", town.checksum(), sum(150, 1, 40, 2));
    }

    private static long sum(int... parts) {
        long sum = 7;
        for (int part : parts) {
            sum = 31 * sum + part;
        }
        return sum;
    }

    private static void truths() {
        StreetNamer town = twoStreets();
        Check.due("a new town", new StreetNamer().isTrue(), true);
        Check.due("two streets", town.isTrue(), true);
        town.corner(0, 1, 0, 'l');
        town.merge(0, 1);
        town.join(1, 0);
        town.remove(1);
        Check.due("all gone", town.isTrue(), true);
    }

    /** No number that is none brings the call to anything but the first exception. */
    private static void wrongNumbers() {
        StreetNamer town = new StreetNamer();
        Check.street(town, "a", 20, 's', false);
        town.door(0, 0, 'l');
        for (int none : NO_NUMBERS) {
            Check.refused("rename", town, INDEX, () -> town.rename(none));
            Check.refused("translate", town, INDEX, () -> town.translate(none));
            Check.refused("letter", town, INDEX, () -> town.letter(none, false, 0));
            Check.refused("way", town, INDEX, () -> town.way(none, 'x', false));
            Check.refused("door", town, INDEX, () -> town.door(none, -1, 'x'));
            Check.refused("corner of it", town, INDEX, () -> town.corner(none, 0, -1, 'x'));
            Check.refused("corner with it", town, INDEX, () -> town.corner(0, none, -1, 'x'));
            Check.refused("merge", town, INDEX, () -> town.merge(none, none));
            Check.refused("merge into it", town, INDEX, () -> town.merge(0, none));
            Check.refused("remove", town, INDEX, () -> town.remove(none));
            Check.refused("renumber", town, INDEX, () -> town.renumber(none));
            Check.refused("join", town, INDEX, () -> town.join(none, none));
            Check.refused("join with it", town, INDEX, () -> town.join(0, none));
            Check.refused("address", town, INDEX, () -> town.address(none, true));
            Check.refused("streetOf", town, INDEX, () -> town.streetOf(none, true));
            Check.refused("isGone", town, INDEX, () -> town.isGone(none));
            Check.refused("doors", town, INDEX, () -> town.doors(none));
            Check.refused("walk", town, INDEX, () -> town.walk(none, -1));
            Check.refused("steps", town, INDEX, () -> town.steps(none));
            Check.refused("clashes", town, INDEX, () -> town.clashes(none));
        }
    }

    /** Street 0, of 60 metres, a and c, with a door on each side, and street 1, of 40 metres, b. */
    private static StreetNamer twoStreets() {
        StreetNamer town = new StreetNamer();
        Check.street(town, "a", 60, 's', false);
        Check.street(town, "b", 40, 's', false);
        Check.typed(town, "c");
        town.translate(0);
        town.door(0, 10, 'l');
        town.door(0, 20, 'r');
        return town;
    }

    /** Adds a door, and answers its address. */
    private static int added(StreetNamer town, int street, int metre, char side) {
        return town.address(town.door(street, metre, side), false);
    }
}
