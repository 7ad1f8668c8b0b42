/** The two sentences of "Terms" on exceptions: nothing changes, and which of several is thrown. */
final class ExceptionBoundaries extends Boundary {
    private static final String TERMS = "Terms";

    private ExceptionBoundaries() {
    }

    static void run() {
        nothingChanges();
        laterCallsAreAsWithoutIt();
        firstOfTyping();
        firstOfStreets();
        firstOfNames();
        firstOfDoors();
        firstOfCorners();
        firstOfMerging();
        firstOfJoining();
        firstOfAskingForDoors();
    }

    /** One call of each kind in a town that has all that a call could change. */
    private static void nothingChanges() {
        says(TERMS, "A method that throws an exception changes nothing.");
        Given full = all(street("a", 50, 'm', false), second(0, "z"), street("b", 50, 's', true), street("c", 50, 'y', false),
                doors(10, 0, 5, 'l'), door(1, 5, 'l'), door(2, 5, 'r'), corner(11, 1, 9, 'r'), t -> t.day(3), t -> t.merge(3, 4),
                gone(5), door(0, 5, 'l'), door(0, 5, 'l'), name("b"));
        refused("type", full, ARGUMENT, t -> t.type('B'));
        refused("street", full, ARGUMENT, t -> t.street(9, 's', true));
        refused("street with a name in use", full, UNSUPPORTED, t -> t.street(10, 's', true));
        refused("rename", full, UNSUPPORTED, t -> t.rename(0));
        refused("translate", full, UNSUPPORTED, t -> t.translate(0));
        refused("letter", full, NO_ELEMENT, t -> t.letter(0, true, 1));
        refused("way", full, ARGUMENT, t -> t.way(1, 'r', false));
        refused("way of no street", full, INDEX, t -> t.way(3, 'm', false));
        refused("door", full, ARGUMENT, t -> t.door(2, 51, 'l'));
        refused("door that cannot come", full, UNSUPPORTED, t -> t.door(0, 5, 'l'));
        refused("corner", full, ARGUMENT, t -> t.corner(1, 2, 51, 'l'));
        refused("corner of one that is gone", full, UNSUPPORTED, t -> t.corner(3, 2, 5, 'l'));
        refused("corner that cannot come", full, UNSUPPORTED, t -> t.corner(10, 0, 5, 'l'));
        refused("merge", full, UNSUPPORTED, t -> t.merge(0, 3));
        refused("remove", full, UNSUPPORTED, t -> t.remove(3));
        refused("renumber", full, INDEX, t -> t.renumber(3));
        Given crowded = all(full, way(0, 'y', false), door(0, 0, 'r'), door(0, 6, 'l'), way(0, 'm', false));
        refused("renumber that is refused", crowded, UNSUPPORTED, t -> t.renumber(0));
        refused("join", full, ARGUMENT, t -> t.join(1, 1));
        refused("join that is too long", all(full, street("d", 950, 's', false), name("b")), ARGUMENT, t -> t.join(1, 3));
        refused("join where a door could not come", all(full, street("d", 10, 'm', false), doors(10, 3, 0, 'r'), way(0, 'm', true),
                way(3, 'y', false), door(3, 0, 'r'), name("b")), UNSUPPORTED, t -> t.join(0, 3));
        refused("day", full, ARGUMENT, t -> t.day(0));
        refused("address", full, NO_ELEMENT, t -> t.address(3, false));
        refused("streetOf", full, NO_ELEMENT, t -> t.streetOf(0, true));
        refused("isGone", full, INDEX, t -> t.isGone(14));
        refused("find", full, NO_ELEMENT, t -> t.find(30));
        refused("send", full, NO_ELEMENT, t -> t.send(30));
        refused("send of a letter that is lost", all(full, gone(13), name("z")), UNSUPPORTED, t -> t.send(15));
        refused("until", full, NO_ELEMENT, t -> t.until(30));
        refused("doors", full, INDEX, t -> t.doors(3));
        refused("walk", full, NO_ELEMENT, t -> t.walk(2, 1));
        refused("steps", full, INDEX, t -> t.steps(-1));
        refused("clashes", full, INDEX, t -> t.clashes(12));
        refused("goneShare", all(street("a", 50, 's', false), name("b")), ARITHMETIC, t -> t.goneShare());
        refused("meanDoors", name("b"), ARITHMETIC, t -> t.meanDoors());
    }

    private static void laterCallsAreAsWithoutIt() {
        says(TERMS, "A method that throws an exception changes nothing.");
        taken("a refused letter is not typed", all(name("a"), t -> Check.outcome(() -> t.type('A')), t -> t.type('b'),
                t -> t.street(10, 's', false)), t -> Check.nameOf(t, 0, false), "ab");
        taken("a refused street takes no number", all(name("a"), t -> Check.outcome(() -> t.street(9, 's', false))),
                t -> t.street(10, 's', false), 0);
        taken("a refused door takes no number", all(streets(1), t -> Check.outcome(() -> t.door(0, 51, 'l'))), t -> t.door(0, 50, 'l'), 0);
        taken("a refused door takes no address", all(streets(1), t -> Check.outcome(() -> t.door(0, 51, 'l'))),
                t -> comes(t, 0, 50, 'l'), 10);
        taken("a 41st door takes no address", all(streets(2), doors(39, 0, 5, 'l'), door(1, 5, 'l'),
                t -> Check.outcome(() -> t.door(0, 5, 'l'))), t -> t.corner(39, 0, 5, 'l'), 400);
        taken("a refused corner takes no address", all(streets(2), door(0, 5, 'l'), t -> Check.outcome(() -> t.corner(0, 1, 51, 'l'))),
                t -> t.corner(0, 1, 50, 'l'), 10);
        taken("a refused number of days does not pass", all(nothing(), t -> Check.outcome(() -> t.day(10000))), t -> t.day(1), 1);
        taken("a refused merge makes no old address", all(streets(1), door(0, 5, 'l'), t -> Check.outcome(() -> t.merge(0, 0))),
                t -> t.olds(), 0);
    }

    // ---- which is thrown ----

    private static void first() {
        says(TERMS, "If several exceptions apply, the exception listed first is thrown.");
    }

    private static void firstOfTyping() {
        first();
        refused("type: none, and there are 7", name("abcdefg"), ARGUMENT, t -> t.type('`'));
        refused("type: there are 7", name("abcdefg"), STATE, t -> t.type('a'));
    }

    private static void firstOfStreets() {
        first();
        Given twelve = streets(12);
        refused("street: length, nothing typed", nothing(), ARGUMENT, t -> t.street(9, 's', false));
        refused("street: way, nothing typed", nothing(), ARGUMENT, t -> t.street(10, 'x', false));
        refused("street: length, in use", all(twelve, name("a")), ARGUMENT, t -> t.street(1000, 's', false));
        refused("street: length, 12", all(twelve, name("z")), ARGUMENT, t -> t.street(1000, 's', false));
        refused("street: way, 12", all(twelve, name("z")), ARGUMENT, t -> t.street(999, 'x', false));
        refused("street: way, nothing typed, 12", all(twelve, name("")), ARGUMENT, t -> t.street(999, 'x', false));
        refused("street: nothing typed, 12", all(twelve, name("")), UNSUPPORTED, t -> t.street(999, 's', false));
        refused("street: in use, 12", all(twelve, name("l")), UNSUPPORTED, t -> t.street(999, 's', false));
        refused("street: 12", all(twelve, name("z")), STATE, t -> t.street(999, 's', false));
    }

    private static void firstOfNames() {
        first();
        Given gone = all(streets(3), second(0, "z"), t -> t.join(0, 2));
        for (int none : new int[] {-1, 2, 3, 12}) {
            refused("rename: street " + none + ", nothing typed", all(gone, name("")), INDEX, t -> t.rename(none));
            refused("rename: street " + none + ", in use", all(gone, name("b")), INDEX, t -> t.rename(none));
            refused("translate: street " + none + ", in use", all(gone, name("z")), INDEX, t -> t.translate(none));
            refused("letter: street " + none + ", no letter", gone, INDEX, t -> t.letter(none, true, -1));
            refused("way: street " + none + ", no way", gone, INDEX, t -> t.way(none, 'x', false));
            refused("walk: street " + none + ", no place", gone, INDEX, t -> t.walk(none, -1));
        }
        refused("rename: nothing typed", all(gone, name("")), UNSUPPORTED, t -> t.rename(0));
        refused("translate: in use", all(gone, name("z")), UNSUPPORTED, t -> t.translate(0));
        refused("letter: no letter", gone, NO_ELEMENT, t -> t.letter(0, true, -1));
        refused("way: no way", gone, ARGUMENT, t -> t.way(0, 'x', false));
        refused("walk: no place", gone, NO_ELEMENT, t -> t.walk(0, -1));
    }

    private static void firstOfDoors() {
        first();
        Given full = all(street("a", 50, 'm', false), street("b", 50, 'y', false), street("c", 50, 'y', false), t -> t.join(1, 2),
                doors(10, 0, 5, 'l'));
        Given most = all(full, doors(30, 1, 5, 'l'));
        for (int none : new int[] {-1, 2, 3, 12}) {
            refused("door: street " + none + ", metre", full, INDEX, t -> t.door(none, -1, 'l'));
            refused("door: street " + none + ", side", full, INDEX, t -> t.door(none, 5, 'x'));
            refused("door: street " + none + ", 40", most, INDEX, t -> t.door(none, 5, 'l'));
            refused("door: street " + none + ", metre, 40", most, INDEX, t -> t.door(none, 51, 'l'));
        }
        refused("door: side, cannot come", full, ARGUMENT, t -> t.door(0, 5, 'x'));
        refused("door: metre, 40", most, ARGUMENT, t -> t.door(1, 101, 'l'));
        refused("door: side, cannot come, 40", most, ARGUMENT, t -> t.door(0, 5, 'x'));
        refused("door: cannot come", full, UNSUPPORTED, t -> t.door(0, 9, 'l'));
        refused("door: cannot come, 40", most, UNSUPPORTED, t -> t.door(0, 9, 'l'));
        refused("door: 40", most, STATE, t -> t.door(0, 10, 'l'));
    }

    private static void firstOfCorners() {
        first();
        Given full = all(street("a", 50, 'm', false), street("b", 50, 'y', false), street("c", 50, 'y', false), t -> t.join(1, 2),
                doors(10, 0, 5, 'l'), doors(3, 1, 5, 'l'), corner(0, 1, 5, 'l'), gone(1), door(0, 5, 'l'), gone(11));
        for (int none : new int[] {-1, 2, 3, 12}) {
            refused("corner: street " + none + ", metre", full, INDEX, t -> t.corner(2, none, -1, 'l'));
            refused("corner: street " + none + ", side", full, INDEX, t -> t.corner(2, none, 5, 'x'));
            refused("corner: street " + none + ", gone", full, INDEX, t -> t.corner(1, none, 5, 'l'));
            refused("corner: street " + none + ", a corner", full, INDEX, t -> t.corner(0, none, 5, 'l'));
        }
        for (int none : new int[] {-1, 14, 39, 40}) {
            refused("corner: door " + none + ", street", full, INDEX, t -> t.corner(none, 2, 5, 'l'));
            refused("corner: door " + none + ", metre", full, INDEX, t -> t.corner(none, 0, 51, 'l'));
            refused("corner: door " + none + ", cannot come", full, INDEX, t -> t.corner(none, 0, 5, 'l'));
        }
        refused("corner: metre, gone", full, ARGUMENT, t -> t.corner(1, 1, 101, 'l'));
        refused("corner: side, a corner", full, ARGUMENT, t -> t.corner(0, 1, 5, 'x'));
        refused("corner: metre, of that street", full, ARGUMENT, t -> t.corner(2, 0, -1, 'l'));
        refused("corner: side, cannot come", full, ARGUMENT, t -> t.corner(10, 0, 5, 'x'));
        refused("corner: gone, of that street", full, UNSUPPORTED, t -> t.corner(11, 1, 5, 'l'));
        refused("corner: cannot come", full, UNSUPPORTED, t -> t.corner(10, 0, 5, 'l'));
    }

    private static void firstOfMerging() {
        first();
        Given three = all(streets(1), doors(3, 0, 5, 'l'), gone(1));
        for (int none : new int[] {-1, 3, 40}) {
            refused("merge: both " + none, three, INDEX, t -> t.merge(none, none));
            refused("merge: one that is gone, into " + none, three, INDEX, t -> t.merge(1, none));
            refused("merge: " + none + ", into one that is gone", three, INDEX, t -> t.merge(none, 1));
        }
        refused("merge: the same, gone", three, ARGUMENT, t -> t.merge(1, 1));
        refused("merge: gone", three, UNSUPPORTED, t -> t.merge(1, 0));
    }

    private static void firstOfJoining() {
        first();
        Given crowded = all(street("a", 15, 'm', false), doors(10, 0, 15, 'l'), street("b", 985, 'y', false), door(1, 0, 'l'),
                street("c", 984, 'y', false), door(2, 0, 'l'));
        for (int none : new int[] {-1, 3, 12}) {
            refused("join: both " + none, crowded, INDEX, t -> t.join(none, none));
            refused("join: " + none + " to another", crowded, INDEX, t -> t.join(1, none));
            refused("join: another to " + none, crowded, INDEX, t -> t.join(none, 1));
        }
        refused("join: the same, gone", all(streets(2), t -> t.join(1, 0)), INDEX, t -> t.join(0, 0));
        refused("join: the same, too long", crowded, ARGUMENT, t -> t.join(1, 1));
        refused("join: too long, could not come", crowded, ARGUMENT, t -> t.join(0, 1));
        refused("join: could not come", crowded, UNSUPPORTED, t -> t.join(0, 2));
    }

    private static void firstOfAskingForDoors() {
        first();
        Given two = all(streets(1), doors(2, 0, 5, 'l'), gone(1));
        for (int none : new int[] {-1, 2, 40}) {
            refused("address: door " + none + ", no corner", two, INDEX, t -> t.address(none, true));
            refused("streetOf: door " + none + ", no corner", two, INDEX, t -> t.streetOf(none, true));
            refused("remove: door " + none, two, INDEX, t -> t.remove(none));
        }
        refused("address: no corner", two, NO_ELEMENT, t -> t.address(0, true));
        refused("streetOf: gone", two, NO_ELEMENT, t -> t.streetOf(1, true));
        refused("remove: gone", two, UNSUPPORTED, t -> t.remove(1));
    }
}
