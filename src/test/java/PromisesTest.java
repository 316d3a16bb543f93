import support.Due;

/** The promises of the document, one by one: ordinary inputs, edges and wrong inputs. */
public final class PromisesTest {
    private static final int INVALID = Due.INVALID;
    private static final int NOT_POSSIBLE = Due.NOT_POSSIBLE;
    private static final int LIMIT = Due.LIMIT;
    private static final int NOT_FOUND = Due.NOT_FOUND;
    private static final int MIN = Integer.MIN_VALUE;
    private static final int MAX = Integer.MAX_VALUE;

    private static final Due due = new Due();

    public static void main(String[] args) {
        newObject();
        thing();
        thingWithoutRoom();
        hold();
        release();
        tie();
        loosen();
        pin();
        unpin();
        winter();
        winterSurvivors();
        winterMoves();
        winterPins();
        winterWithoutRoom();
        winterOfThirty();
        full();
        thingOf();
        houseOf();
        handOf();
        noteAt();
        needed();
        survivors();
        keptBy();
        far();
        count();
        undo();
        history();
        type();
        clearText();
        faultForm();
        faultReasons();
        faultOrders();
        play();
        due.end();
    }

    private static int set(int... numbers) {
        return Due.set(numbers);
    }

    private static WarmHouses withThings(int number) {
        WarmHouses x = new WarmHouses();
        for (int i = 0; i < number; i++) {
            x.thing();
        }
        return x;
    }

    private static void text(WarmHouses x, String text) {
        x.clearText();
        for (int i = 0; i < text.length(); i++) {
            x.type(text.charAt(i));
        }
    }

    private static void newObject() {
        due.promise("1 a new object");
        WarmHouses x = new WarmHouses();
        for (int house = 0; house < 8; house++) {
            due.is("houseOf(" + house + ", 0)", x.houseOf(house, 0), NOT_FOUND);
            due.is("houseOf(" + house + ", 1)", x.houseOf(house, 1), 0);
            due.is("houseOf(" + house + ", 2)", x.houseOf(house, 2), 0);
            for (int what = 3; what < 8; what++) {
                due.is("houseOf(" + house + ", " + what + ")", x.houseOf(house, what), NOT_FOUND);
            }
        }
        for (int hand = 0; hand < 4; hand++) {
            due.is("handOf(" + hand + ")", x.handOf(hand), NOT_FOUND);
        }
        for (int what = 0; what < 14; what++) {
            due.is("count(" + what + ")", x.count(what), what == 6 ? 8 : 0);
        }
        due.is("thingOf(0, 0)", x.thingOf(0, 0), INVALID);
        due.is("undo()", x.undo(), NOT_POSSIBLE);
        due.is("winter(0)", x.winter(0), 0);
        due.is("winter(1)", x.winter(1), 0);
        due.is("full()", x.full(), 0);
    }

    private static void thing() {
        due.promise("2 thing");
        WarmHouses x = new WarmHouses();
        for (int i = 0; i < 30; i++) {
            due.is("thing()", x.thing(), i);
            due.is("thingOf(" + i + ", 1)", x.thingOf(i, 1), i / 5 * 10 + i % 5);
            due.is("thingOf(" + i + ", 2)", x.thingOf(i, 2), 0);
            due.is("thingOf(" + i + ", 4)", x.thingOf(i, 4), NOT_FOUND);
            due.is("thingOf(" + i + ", 6)", x.thingOf(i, 6), NOT_FOUND);
        }
        due.is("thing()", x.thing(), LIMIT);
        due.is("count(0)", x.count(0), 30);
        due.is("full()", x.full(), 30);
        due.is("thing() after 30 that are gone", x.thing(), LIMIT);
        due.is("count(1)", x.count(1), 0);

        x = withThings(7);
        x.pin(1);
        x.hold(0, 3);
        x.hold(1, 6);
        x.full();
        due.is("thing()", x.thing(), 7);
        due.is("the lowest empty place", x.thingOf(7, 1), 0);
        due.is("thing()", x.thing(), 8);
        due.is("the next empty place", x.thingOf(8, 1), 2);
        due.is("thing()", x.thing(), 9);
        due.is("thing()", x.thing(), 10);
        due.is("a house with room before a free one", x.thingOf(10, 1), 10);

        x = withThings(1);
        x.hold(0, 0);
        x.winter(0);
        due.is("thing()", x.thing(), 1);
        due.is("the lowest free house, not one of another age", x.thingOf(1, 1), 0);
        due.is("houseOf(0, 0)", x.houseOf(0, 0), 0);
        due.is("houseOf(1, 0)", x.houseOf(1, 0), 1);
    }

    /** No house is free, and none is of age 0: each has one pinned thing. */
    private static WarmHouses eightPinnedHouses() {
        WarmHouses x = new WarmHouses();
        for (int house = 0; house < 8; house++) {
            x.pin(x.thing());
            x.winter(0);
        }
        return x;
    }

    private static void thingWithoutRoom() {
        WarmHouses x = eightPinnedHouses();
        due.is("count(6)", x.count(6), 0);
        due.is("thing() without room", x.thing(), NOT_POSSIBLE);
        due.is("count(0)", x.count(0), 8);
        due.is("count(12)", x.count(12), 4);

        x = withThings(22);
        x.full();
        for (int house = 0; house < 7; house++) {
            x.pin(x.thing());
            x.winter(0);
        }
        due.is("thing()", x.thing(), 29);
        due.is("no room yet for none", x.thing(), LIMIT);
        x.pin(29);
        x.winter(0);
        due.is("count(6)", x.count(6), 0);
        due.is("no room, and 30 came: NOT_POSSIBLE first", x.thing(), NOT_POSSIBLE);
    }

    private static void hold() {
        due.promise("3 hold");
        WarmHouses x = withThings(3);
        due.is("hold(0, 0)", x.hold(0, 0), 1);
        due.is("hold(3, 0)", x.hold(3, 0), 2);
        due.is("hold(0, 2)", x.hold(0, 2), 2);
        due.is("handOf(0)", x.handOf(0), 2);
        due.is("handOf(3)", x.handOf(3), 0);
        due.is("hold(1, 1)", x.hold(1, 1), 3);
        due.is("hold(2, 1)", x.hold(2, 1), 4);
        due.is("hold(2, 1) again", x.hold(2, 1), 4);
        int[][] wrong = {{-1, 0}, {4, 0}, {0, -1}, {0, 3}, {0, 30}, {0, 31}, {MIN, MIN}, {MAX, MAX}, {0, MIN}, {0, MAX}};
        for (int[] pair : wrong) {
            due.is("hold(" + pair[0] + ", " + pair[1] + ")", x.hold(pair[0], pair[1]), INVALID);
        }
        due.is("handOf(0)", x.handOf(0), 2);
        x = withThings(1);
        x.full();
        due.is("hold(0, gone)", x.hold(0, 0), INVALID);
        due.is("count(12)", x.count(12), 2);
    }

    private static void release() {
        due.promise("4 release");
        WarmHouses x = withThings(2);
        x.hold(0, 1);
        x.hold(3, 0);
        due.is("release(0)", x.release(0), 1);
        due.is("release(0)", x.release(0), NOT_POSSIBLE);
        due.is("handOf(0)", x.handOf(0), NOT_FOUND);
        due.is("release(3)", x.release(3), 0);
        due.is("release(1)", x.release(1), NOT_POSSIBLE);
        for (int hand : new int[] {-1, 4, MIN, MAX}) {
            due.is("release(" + hand + ")", x.release(hand), INVALID);
        }
    }

    private static void tie() {
        due.promise("5 tie");
        WarmHouses x = withThings(2);
        due.is("tie(0, 0, 1)", x.tie(0, 0, 1), 0);
        due.is("tie(0, 2, 0)", x.tie(0, 2, 0), 0);
        due.is("thingOf(0, 4)", x.thingOf(0, 4), 1);
        due.is("thingOf(0, 5)", x.thingOf(0, 5), NOT_FOUND);
        due.is("thingOf(0, 6)", x.thingOf(0, 6), 0);
        due.is("tie(0, 0, 0)", x.tie(0, 0, 0), 0);
        due.is("thingOf(0, 4)", x.thingOf(0, 4), 0);
        x.hold(0, 0);
        x.winter(0);
        x.thing();
        due.is("tie(0, 1, 2) down", x.tie(0, 1, 2), 1);
        due.is("tie(2, 1, 0) up", x.tie(2, 1, 0), 0);
        due.is("tie(0, 1, 0) level", x.tie(0, 1, 0), 0);
        int[][] wrong = {{-1, 0, 0}, {3, 0, 0}, {1, 0, 0}, {0, -1, 0}, {0, 3, 0}, {0, 0, -1}, {0, 0, 3}, {0, 0, 1},
            {30, 0, 0}, {0, 0, 30}, {MIN, MIN, MIN}, {MAX, MAX, MAX}, {0, MAX, 0}, {0, MIN, 0}};
        for (int[] row : wrong) {
            due.is("tie(" + row[0] + ", " + row[1] + ", " + row[2] + ")", x.tie(row[0], row[1], row[2]), INVALID);
        }
        due.is("thingOf(0, 4)", x.thingOf(0, 4), 0);
    }

    private static void loosen() {
        due.promise("6 loosen");
        WarmHouses x = withThings(3);
        x.tie(0, 1, 2);
        x.tie(2, 2, 2);
        due.is("loosen(0, 0)", x.loosen(0, 0), NOT_POSSIBLE);
        due.is("loosen(0, 1)", x.loosen(0, 1), 2);
        due.is("loosen(0, 1)", x.loosen(0, 1), NOT_POSSIBLE);
        due.is("thingOf(0, 5)", x.thingOf(0, 5), NOT_FOUND);
        due.is("thingOf(2, 6)", x.thingOf(2, 6), 2);
        due.is("loosen(2, 2)", x.loosen(2, 2), 2);
        int[][] wrong = {{-1, 0}, {3, 0}, {30, 0}, {0, -1}, {0, 3}, {MIN, 0}, {MAX, 0}, {0, MIN}, {0, MAX}};
        for (int[] pair : wrong) {
            due.is("loosen(" + pair[0] + ", " + pair[1] + ")", x.loosen(pair[0], pair[1]), INVALID);
        }
        x.full();
        due.is("loosen(gone, 0)", x.loosen(0, 0), INVALID);
    }

    private static void pin() {
        due.promise("7 pin");
        WarmHouses x = withThings(30);
        due.is("pin(29)", x.pin(29), 1);
        due.is("pin(0)", x.pin(0), 2);
        due.is("pin(0)", x.pin(0), NOT_POSSIBLE);
        due.is("thingOf(29, 3)", x.thingOf(29, 3), 1);
        due.is("thingOf(1, 3)", x.thingOf(1, 3), 0);
        for (int thing : new int[] {-1, 30, 31, 32, MIN, MAX}) {
            due.is("pin(" + thing + ")", x.pin(thing), INVALID);
        }
        x.full();
        due.is("pin(gone)", x.pin(1), INVALID);
        due.is("count(1)", x.count(1), 2);
    }

    private static void unpin() {
        due.promise("8 unpin");
        WarmHouses x = withThings(3);
        x.pin(0);
        x.pin(2);
        due.is("unpin(1)", x.unpin(1), NOT_POSSIBLE);
        due.is("unpin(0)", x.unpin(0), 1);
        due.is("unpin(0)", x.unpin(0), NOT_POSSIBLE);
        due.is("thingOf(0, 3)", x.thingOf(0, 3), 0);
        due.is("thingOf(2, 3)", x.thingOf(2, 3), 1);
        due.is("unpin(2)", x.unpin(2), 0);
        for (int thing : new int[] {-1, 3, 30, 32, MIN, MAX}) {
            due.is("unpin(" + thing + ")", x.unpin(thing), INVALID);
        }
        x.full();
        due.is("unpin(gone)", x.unpin(0), INVALID);
    }

    private static void winter() {
        due.promise("9 winter");
        WarmHouses x = withThings(4);
        x.hold(0, 1);
        x.tie(1, 0, 3);
        x.tie(2, 0, 1);
        due.is("winter(0)", x.winter(0), 2);
        due.is("houseOf(1, 2)", x.houseOf(1, 2), set(1, 3));
        due.is("houseOf(1, 0)", x.houseOf(1, 0), 1);
        due.is("houseOf(0, 0)", x.houseOf(0, 0), NOT_FOUND);
        due.is("thingOf(2, 4) of one that is gone", x.thingOf(2, 4), NOT_FOUND);
        due.is("thingOf(1, 8) from one that is gone", x.thingOf(1, 8), 0);
        due.is("thingOf(3, 8)", x.thingOf(3, 8), set(1));
        due.is("winter(0) with none", x.winter(0), 0);
        due.is("thingOf(1, 9)", x.thingOf(1, 9), 1);
        due.is("count(8)", x.count(8), 2);
        due.is("winter(1)", x.winter(1), 0);
        due.is("thingOf(1, 2)", x.thingOf(1, 2), 2);
        x.release(0);
        due.is("winter(1) is not for age 2", x.winter(1), 0);
        due.is("thingOf(1, 2)", x.thingOf(1, 2), 2);
        for (int age : new int[] {-1, 2, 3, MIN, MAX}) {
            due.is("winter(" + age + ")", x.winter(age), INVALID);
        }
        due.is("count(8)", x.count(8), 4);
    }

    private static void winterSurvivors() {
        // 0 is old and forgotten; its note keeps 1, which keeps 2. 3 is kept by nothing.
        WarmHouses x = withThings(1);
        x.hold(0, 0);
        x.winter(0);
        x.thing();
        x.thing();
        x.thing();
        x.release(0);
        x.tie(0, 2, 1);
        x.tie(1, 0, 2);
        x.tie(3, 0, 2);
        due.is("needed(0)", x.needed(0), 0);
        due.is("winter(0)", x.winter(0), 1);
        due.is("ages 1", x.count(4), 3);
        due.is("thingOf(3, 0)", x.thingOf(3, 0), 0);
        due.is("thingOf(2, 8)", x.thingOf(2, 8), set(1));

        // A thing of age 1 that a winter of age 1 concerns keeps nothing if it does not survive.
        x = withThings(1);
        x.hold(0, 0);
        x.winter(0);
        x.thing();
        x.tie(0, 0, 1);
        x.release(0);
        due.is("survivors(1, 0)", x.survivors(1, 0), 0);
        due.is("survivors(0, 0)", x.survivors(0, 0), set(1));
        due.is("winter(1)", x.winter(1), 2);
        due.is("count(6)", x.count(6), 8);

        // A held old thing reaches a young one through a young one, whose string goes up again.
        x = withThings(2);
        x.hold(0, 0);
        x.tie(0, 0, 1);
        x.winter(0);
        x.thing();
        x.tie(1, 0, 2);
        due.is("winter(0)", x.winter(0), 0);
        due.is("thingOf(2, 2)", x.thingOf(2, 2), 1);
    }

    private static void winterMoves() {
        // Things that will be gone still count: the house of age 1 with room takes two.
        WarmHouses x = withThings(3);
        x.hold(0, 0);
        x.tie(0, 0, 1);
        x.tie(0, 1, 2);
        x.winter(0);
        due.is("thingOf(2, 1)", x.thingOf(2, 1), 12);
        for (int i = 0; i < 4; i++) {
            x.thing();
        }
        x.tie(1, 0, 3);
        x.tie(1, 1, 5);
        x.tie(1, 2, 6);
        due.is("winter(0)", x.winter(0), 1);
        due.is("thingOf(3, 1)", x.thingOf(3, 1), 13);
        due.is("thingOf(5, 1)", x.thingOf(5, 1), 14);
        due.is("thingOf(6, 1)", x.thingOf(6, 1), 20);
        due.is("houseOf(0, 0)", x.houseOf(0, 0), NOT_FOUND);
        due.is("count(11)", x.count(11), 6);

        // 0 of age 1 leaves house 1 in a winter of age 1; 1 of age 0 finds room in it.
        x = withThings(1);
        x.hold(0, 0);
        x.winter(0);
        x.thing();
        x.hold(1, 1);
        due.is("winter(1)", x.winter(1), 0);
        due.is("thingOf(0, 1)", x.thingOf(0, 1), 20);
        due.is("thingOf(1, 1) in a house that became empty", x.thingOf(1, 1), 10);
        due.is("houseOf(1, 0)", x.houseOf(1, 0), 1);
        due.is("houseOf(0, 0)", x.houseOf(0, 0), NOT_FOUND);

        // The younger one comes first by its number: the house is not empty yet.
        x = withThings(2);
        x.hold(0, 1);
        x.winter(1);
        due.is("thingOf(1, 1)", x.thingOf(1, 1), 10);

        // A place of a thing that will be gone is not room.
        x = withThings(1);
        x.hold(0, 0);
        x.winter(0);
        x.release(0);
        x.thing();
        x.hold(0, 1);
        due.is("winter(1)", x.winter(1), 1);
        due.is("thingOf(1, 1) behind one that will be gone", x.thingOf(1, 1), 11);
        due.is("thingOf(0, 0)", x.thingOf(0, 0), 0);
        due.is("houseOf(1, 0)", x.houseOf(1, 0), 1);
    }

    private static void winterPins() {
        // Two pinned things in one house: it becomes older once; the place of its own is not empty yet.
        WarmHouses x = withThings(5);
        x.pin(0);
        x.pin(4);
        x.hold(0, 2);
        due.is("winter(0)", x.winter(0), 2);
        due.is("houseOf(0, 0)", x.houseOf(0, 0), 1);
        due.is("the house is full then", x.thingOf(2, 1), 10);
        due.is("thingOf(0, 9)", x.thingOf(0, 9), 0);
        due.is("thingOf(2, 9)", x.thingOf(2, 9), 1);

        // A place in its own house can do.
        x = withThings(2);
        x.pin(1);
        x.hold(0, 0);
        due.is("winter(0)", x.winter(0), 0);
        due.is("thingOf(0, 1)", x.thingOf(0, 1), 2);
        due.is("count(11)", x.count(11), 1);
        due.is("count(6)", x.count(6), 7);

        // All pinned ones come first: house 1 is of age 1 for thing 0 of house 0.
        x = withThings(6);
        x.pin(5);
        x.hold(0, 0);
        due.is("winter(0)", x.winter(0), 4);
        due.is("thingOf(0, 1)", x.thingOf(0, 1), 11);
        due.is("thingOf(5, 1)", x.thingOf(5, 1), 10);

        // A pinned thing keeps what it is tied to, and a pinned one of age 2 stays so.
        x = withThings(2);
        x.pin(0);
        x.tie(0, 0, 1);
        x.winter(1);
        x.winter(1);
        due.is("houseOf(0, 0)", x.houseOf(0, 0), 2);
        due.is("houseOf(0, 2)", x.houseOf(0, 2), set(0, 1));
        due.is("winter(1)", x.winter(1), 0);
        due.is("houseOf(0, 0)", x.houseOf(0, 0), 2);

        // One of age 1 in a house that becomes 2, and one of age 0 moves to age 1, not 2.
        x = withThings(2);
        x.pin(0);
        x.hold(0, 1);
        x.winter(0);
        x.thing();
        x.hold(1, 2);
        due.is("thingOf(2, 1)", x.thingOf(2, 1), 10);
        due.is("winter(1)", x.winter(1), 0);
        due.is("thingOf(1, 1) to 2", x.thingOf(1, 1), 1);
        due.is("thingOf(2, 1) to 1", x.thingOf(2, 1), 20);
        due.is("houseOf(0, 0)", x.houseOf(0, 0), 2);
        due.is("houseOf(2, 0)", x.houseOf(2, 0), 1);
    }

    /** Houses 0 to 6 have a pinned thing of age 2 each, house 7 two things of age 0. */
    private static WarmHouses crowded() {
        WarmHouses x = new WarmHouses();
        for (int house = 0; house < 7; house++) {
            x.pin(x.thing());
            x.winter(1);
            x.winter(1);
        }
        x.thing();
        x.thing();
        return x;
    }

    private static void winterWithoutRoom() {
        WarmHouses x = crowded();
        x.hold(0, 8);
        due.is("survivors(0, 3)", x.survivors(0, 3), 0);
        due.is("winter(0) without room", x.winter(0), NOT_POSSIBLE);
        due.is("thingOf(7, 0)", x.thingOf(7, 0), 1);
        due.is("thingOf(8, 1)", x.thingOf(8, 1), 71);
        due.is("houseOf(7, 0)", x.houseOf(7, 0), 0);
        due.is("count(8)", x.count(8), 14);
        due.is("count(11)", x.count(11), 0);
        due.is("winter(2) rather", x.winter(2), INVALID);
        x.release(0);
        due.is("winter(0) without survivors", x.winter(0), 2);
        due.is("count(6)", x.count(6), 1);

        // One thing finds room and one does not: nothing changes.
        x = new WarmHouses();
        for (int house = 0; house < 6; house++) {
            x.pin(x.thing());
            x.winter(1);
            x.winter(1);
        }
        for (int i = 0; i < 4; i++) {
            x.pin(x.thing());
        }
        x.winter(0);
        for (int i = 0; i < 3; i++) {
            x.hold(i, x.thing());
        }
        due.is("count(6)", x.count(6), 0);
        due.is("winter(0) for one of three", x.winter(0), NOT_POSSIBLE);
        due.is("houseOf(6, 1)", x.houseOf(6, 1), 4);
        due.is("houseOf(7, 2)", x.houseOf(7, 2), set(10, 11, 12));
        due.is("houseOf(7, 0)", x.houseOf(7, 0), 0);
        due.is("count(11)", x.count(11), 0);
        due.is("count(12)", x.count(12), 4);
        // A house that becomes empty in it does not become free in it.
        x.release(0);
        x.release(1);
        due.is("winter(0) for one", x.winter(0), 2);
        due.is("thingOf(12, 1)", x.thingOf(12, 1), 64);
    }

    private static void winterOfThirty() {
        // The last thing of all, in the last hand, by its last string.
        WarmHouses x = withThings(30);
        x.hold(3, 29);
        x.tie(29, 2, 7);
        due.is("thingOf(7, 8)", x.thingOf(7, 8), set(29));
        due.is("needed(0)", x.needed(0), set(7, 29));
        due.is("far(7)", x.far(7), 1);
        due.is("keptBy(29)", x.keptBy(29), set(7));
        due.is("winter(0)", x.winter(0), 28);
        due.is("thingOf(7, 1)", x.thingOf(7, 1), 60);
        due.is("thingOf(29, 1)", x.thingOf(29, 1), 61);
        due.is("count(1)", x.count(1), 2);
        due.is("count(6)", x.count(6), 7);
        due.is("undo()", x.undo(), 3);
        due.is("thingOf(29, 1)", x.thingOf(29, 1), 54);
        due.is("count(1)", x.count(1), 30);
        // Six houses of age 0: two free ones take ten, the eleventh finds no room.
        for (int i = 0; i < 10; i++) {
            due.is("survivors(0, 3)", x.survivors(0, 3), 1);
            x.tie(i == 0 ? 29 : i - 1, i == 0 ? 2 : 0, i);
            due.is("survivors(0, 2)", x.survivors(0, 2), i + 2);
        }
        due.is("survivors(0, 3)", x.survivors(0, 3), 0);
        due.is("winter(0)", x.winter(0), NOT_POSSIBLE);
        due.is("count(1)", x.count(1), 30);
    }

    private static void full() {
        due.promise("10 full");
        WarmHouses x = withThings(7);
        x.hold(0, 1);
        x.tie(1, 2, 3);
        x.tie(3, 0, 1);
        x.tie(2, 0, 3);
        x.pin(4);
        due.is("full()", x.full(), 4);
        due.is("needed things live", x.houseOf(0, 2), set(1, 3, 4));
        due.is("nothing moves", x.thingOf(3, 1), 3);
        due.is("houseOf(0, 0)", x.houseOf(0, 0), 0);
        due.is("a house without things is free", x.houseOf(1, 0), NOT_FOUND);
        due.is("thingOf(3, 8)", x.thingOf(3, 8), set(1));
        due.is("thingOf(2, 4)", x.thingOf(2, 4), NOT_FOUND);
        due.is("full() again", x.full(), 0);
        due.is("count(9)", x.count(9), 2);
        due.is("count(8)", x.count(8), 0);

        // It looks at all ages; the notes of forgotten things do not count.
        x = withThings(1);
        x.hold(0, 0);
        x.winter(1);
        x.winter(1);
        x.thing();
        x.tie(0, 0, 1);
        x.release(0);
        due.is("full() at age 2", x.full(), 2);
        due.is("count(6)", x.count(6), 8);
    }

    private static void thingOf() {
        due.promise("11 thingOf");
        WarmHouses x = withThings(8);
        x.hold(0, 7);
        x.hold(3, 7);
        x.pin(6);
        x.tie(7, 0, 7);
        x.tie(7, 2, 6);
        x.tie(6, 1, 7);
        x.tie(6, 2, 7);
        x.tie(1, 0, 7);
        int[] dues = {1, 12, 0, 0, 7, NOT_FOUND, 6, set(0, 3), set(1, 6, 7), 0};
        for (int what = 0; what < 10; what++) {
            due.is("thingOf(7, " + what + ")", x.thingOf(7, what), dues[what]);
        }
        due.is("thingOf(6, 3)", x.thingOf(6, 3), 1);
        due.is("thingOf(6, 5)", x.thingOf(6, 5), 7);
        due.is("thingOf(6, 7)", x.thingOf(6, 7), 0);
        x.winter(0);
        due.is("thingOf(7, 1)", x.thingOf(7, 1), 13);
        due.is("thingOf(7, 2)", x.thingOf(7, 2), 1);
        due.is("thingOf(7, 9)", x.thingOf(7, 9), 1);
        due.is("thingOf(7, 8)", x.thingOf(7, 8), set(6, 7));
        x.unpin(6);
        x.release(0);
        x.release(3);
        x.full();
        int[] gone = {0, NOT_FOUND, NOT_FOUND, 0, NOT_FOUND, NOT_FOUND, NOT_FOUND, 0, 0, 1};
        for (int what = 0; what < 10; what++) {
            due.is("thingOf(7, " + what + ") of one that is gone", x.thingOf(7, what), gone[what]);
        }
        int[][] wrong = {{-1, 0}, {8, 0}, {30, 0}, {31, 0}, {7, -1}, {7, 10}, {MIN, 0}, {MAX, 0}, {0, MIN}, {0, MAX}};
        for (int[] pair : wrong) {
            due.is("thingOf(" + pair[0] + ", " + pair[1] + ")", x.thingOf(pair[0], pair[1]), INVALID);
        }
    }

    private static void houseOf() {
        due.promise("12 houseOf");
        WarmHouses x = withThings(8);
        x.hold(0, 7);
        x.hold(1, 2);
        x.full();
        int[] dues = {0, 1, set(7), NOT_FOUND, NOT_FOUND, 7, NOT_FOUND, NOT_FOUND};
        for (int what = 0; what < 8; what++) {
            due.is("houseOf(1, " + what + ")", x.houseOf(1, what), dues[what]);
        }
        due.is("houseOf(0, 5)", x.houseOf(0, 5), 2);
        x.winter(0);
        due.is("houseOf(2, 0)", x.houseOf(2, 0), 1);
        due.is("houseOf(2, 1)", x.houseOf(2, 1), 2);
        due.is("houseOf(2, 3)", x.houseOf(2, 3), 2);
        due.is("houseOf(2, 4)", x.houseOf(2, 4), 7);
        due.is("houseOf(1, 0)", x.houseOf(1, 0), NOT_FOUND);
        due.is("houseOf(1, 1)", x.houseOf(1, 1), 0);
        due.is("houseOf(1, 2)", x.houseOf(1, 2), 0);
        int[][] wrong = {{-1, 0}, {8, 0}, {0, -1}, {0, 8}, {7, 8}, {MIN, 3}, {MAX, 3}, {0, MIN}, {0, MAX}};
        for (int[] pair : wrong) {
            due.is("houseOf(" + pair[0] + ", " + pair[1] + ")", x.houseOf(pair[0], pair[1]), INVALID);
        }
        x = withThings(30);
        due.is("houseOf(5, 7)", x.houseOf(5, 7), 29);
        due.is("houseOf(5, 2)", x.houseOf(5, 2), set(25, 26, 27, 28, 29));
        due.is("houseOf(7, 7)", x.houseOf(7, 7), NOT_FOUND);
    }

    private static void handOf() {
        due.promise("13 handOf");
        WarmHouses x = withThings(2);
        x.hold(3, 1);
        x.hold(0, 0);
        due.is("handOf(3)", x.handOf(3), 1);
        due.is("handOf(0)", x.handOf(0), 0);
        due.is("handOf(1)", x.handOf(1), NOT_FOUND);
        for (int hand : new int[] {-1, 4, MIN, MAX}) {
            due.is("handOf(" + hand + ")", x.handOf(hand), INVALID);
        }
    }

    private static void noteAt() {
        due.promise("14 noteAt");
        WarmHouses x = withThings(2);
        x.hold(0, 0);
        x.hold(1, 1);
        x.winter(0);
        x.winter(1);
        x.thing();
        x.hold(2, 2);
        x.winter(0);
        x.thing();
        x.tie(2, 1, 3);
        x.tie(1, 2, 2);
        x.tie(1, 0, 3);
        x.tie(0, 1, 1);
        x.tie(3, 0, 0);
        due.is("noteAt(0)", x.noteAt(0), 10);
        due.is("noteAt(1)", x.noteAt(1), 12);
        due.is("noteAt(2)", x.noteAt(2), 21);
        due.is("noteAt(3)", x.noteAt(3), NOT_FOUND);
        due.is("noteAt(MAX)", x.noteAt(MAX), NOT_FOUND);
        due.is("noteAt(-1)", x.noteAt(-1), INVALID);
        due.is("noteAt(MIN)", x.noteAt(MIN), INVALID);
        due.is("count(7)", x.count(7), 3);
        x.winter(0);
        due.is("a note is one no more when the thing is as old", x.noteAt(2), NOT_FOUND);
        due.is("noteAt(1)", x.noteAt(1), 12);
    }

    private static void needed() {
        due.promise("15 needed");
        WarmHouses x = withThings(6);
        due.is("needed(0)", x.needed(0), 0);
        due.is("needed(1)", x.needed(1), set(0, 1, 2, 3, 4, 5));
        x.pin(2);
        x.hold(1, 5);
        x.tie(5, 2, 4);
        x.tie(4, 1, 5);
        x.tie(0, 0, 1);
        x.tie(0, 1, 2);
        due.is("needed(0)", x.needed(0), set(2, 4, 5));
        due.is("needed(1)", x.needed(1), set(0, 1, 3));
        x.full();
        due.is("needed(1) without those that are gone", x.needed(1), 0);
        for (int what : new int[] {-1, 2, MIN, MAX}) {
            due.is("needed(" + what + ")", x.needed(what), INVALID);
        }
    }

    private static void survivors() {
        due.promise("16 survivors");
        WarmHouses x = withThings(3);
        x.hold(0, 0);
        x.tie(0, 0, 1);
        x.winter(0);
        for (int i = 0; i < 4; i++) {
            x.thing();
        }
        x.tie(1, 0, 3);
        x.tie(3, 0, 4);
        x.pin(5);
        x.release(0);
        due.is("survivors(0, 0)", x.survivors(0, 0), set(3, 4, 5));
        due.is("survivors(0, 1)", x.survivors(0, 1), set(6));
        due.is("survivors(0, 2)", x.survivors(0, 2), 2);
        due.is("survivors(0, 3)", x.survivors(0, 3), 1);
        due.is("survivors(1, 0)", x.survivors(1, 0), set(5));
        due.is("survivors(1, 1)", x.survivors(1, 1), set(0, 1, 3, 4, 6));
        due.is("survivors(1, 2)", x.survivors(1, 2), 0);
        due.is("survivors(1, 3)", x.survivors(1, 3), 1);
        due.is("nothing changes", x.count(8), 1);
        due.is("nothing moves", x.count(11), 2);
        due.is("count(12)", x.count(12), 4);
        int[][] wrong = {{-1, 0}, {2, 0}, {0, -1}, {0, 4}, {MIN, 3}, {MAX, 3}, {0, MIN}, {0, MAX}};
        for (int[] pair : wrong) {
            due.is("survivors(" + pair[0] + ", " + pair[1] + ")", x.survivors(pair[0], pair[1]), INVALID);
        }
        x = crowded();
        x.hold(0, 8);
        due.is("survivors(0, 3) without room", x.survivors(0, 3), 0);
        due.is("survivors(0, 0) without room", x.survivors(0, 0), set(8));
        due.is("survivors(0, 1) without room", x.survivors(0, 1), set(7));
        due.is("survivors(0, 2) without room", x.survivors(0, 2), 1);
    }

    private static void keptBy() {
        due.promise("17 keptBy");
        WarmHouses x = withThings(8);
        x.hold(0, 0);
        x.hold(1, 0);
        x.tie(0, 0, 1);
        x.tie(0, 1, 2);
        x.tie(1, 0, 3);
        x.tie(2, 0, 3);
        x.tie(3, 0, 4);
        x.tie(4, 0, 0);
        x.tie(5, 0, 6);
        x.pin(7);
        x.tie(7, 0, 2);
        due.is("keptBy(0)", x.keptBy(0), set(1));
        due.is("keptBy(1)", x.keptBy(1), 0);
        due.is("keptBy(2)", x.keptBy(2), 0);
        due.is("keptBy(3)", x.keptBy(3), set(4));
        due.is("keptBy(4)", x.keptBy(4), 0);
        due.is("keptBy(5) that is forgotten", x.keptBy(5), 0);
        due.is("keptBy(7)", x.keptBy(7), 0);
        x.release(0);
        x.release(1);
        due.is("keptBy(7) by its pin", x.keptBy(7), set(0, 1, 2, 3, 4));
        due.is("keptBy(4)", x.keptBy(4), set(0, 1));
        x.full();
        for (int thing : new int[] {-1, 5, 8, 30, 32, MIN, MAX}) {
            due.is("keptBy(" + thing + ")", x.keptBy(thing), INVALID);
        }
    }

    private static void far() {
        due.promise("18 far");
        WarmHouses x = withThings(30);
        x.hold(2, 0);
        for (int i = 0; i < 29; i++) {
            x.tie(i, i % 3, i + 1);
        }
        for (int i = 0; i < 30; i++) {
            due.is("far(" + i + ")", x.far(i), i);
        }
        x.tie(0, 1, 20);
        due.is("far(22) by the shorter way", x.far(22), 3);
        x.pin(25);
        due.is("far(25) pinned", x.far(25), 0);
        due.is("far(29)", x.far(29), 4);
        x.loosen(5, 2);
        due.is("far(6)", x.far(6), NOT_FOUND);
        x.full();
        for (int thing : new int[] {-1, 6, 30, 32, MIN, MAX}) {
            due.is("far(" + thing + ")", x.far(thing), INVALID);
        }
    }

    private static void count() {
        due.promise("19 count");
        WarmHouses x = withThings(7);
        x.pin(6);
        x.hold(0, 0);
        x.winter(0);
        x.thing();
        x.thing();
        x.tie(6, 0, 7);
        x.tie(0, 0, 7);
        x.winter(1);
        x.thing();
        x.tie(0, 1, 9);
        x.tie(7, 1, 9);
        x.thing();
        x.full();
        x.type('n');
        // 0 and 6 are of age 2, 7 of age 1, 9 of age 0.
        int[] dues = {11, 4, 1, 1, 1, 2, 5, 4, 2, 1, 7, 3, 4, 1};
        for (int what = 0; what < 14; what++) {
            due.is("count(" + what + ")", x.count(what), dues[what]);
        }
        for (int what : new int[] {-1, 14, MIN, MAX}) {
            due.is("count(" + what + ")", x.count(what), INVALID);
        }
    }

    private static void undo() {
        due.promise("20 undo");
        WarmHouses x = withThings(2);
        x.hold(0, 0);
        x.tie(0, 0, 1);
        x.type('n');
        x.winter(0);
        due.is("undo() of winter", x.undo(), 3);
        due.is("thingOf(0, 1)", x.thingOf(0, 1), 0);
        due.is("thingOf(0, 9)", x.thingOf(0, 9), 0);
        due.is("count(8)", x.count(8), 0);
        due.is("count(11)", x.count(11), 0);
        due.is("houseOf(1, 0)", x.houseOf(1, 0), NOT_FOUND);
        due.is("the text stays", x.count(13), 1);
        due.is("undo() of tie", x.undo(), 2);
        due.is("thingOf(0, 4)", x.thingOf(0, 4), NOT_FOUND);
        due.is("undo() of hold", x.undo(), 1);
        due.is("handOf(0)", x.handOf(0), NOT_FOUND);
        due.is("undo() of thing", x.undo(), 0);
        due.is("count(0)", x.count(0), 1);
        due.is("thingOf(1, 0)", x.thingOf(1, 0), INVALID);
        due.is("undo() of none", x.undo(), NOT_POSSIBLE);
        due.is("thing() again", x.thing(), 1);
        due.is("undo()", x.undo(), 0);
    }

    private static void history() {
        // Each kind of change is one state; what is no change or an error is none.
        WarmHouses x = new WarmHouses();
        x.thing();
        due.is("thing", x.count(12), 1);
        x.hold(0, 0);
        due.is("hold", x.count(12), 2);
        x.release(0);
        due.is("release", x.count(12), 3);
        x.tie(0, 0, 0);
        due.is("tie", x.count(12), 4);
        x.loosen(0, 0);
        due.is("only 4", x.count(12), 4);
        due.is("undo() of loosen", x.undo(), 3);
        due.is("thingOf(0, 4)", x.thingOf(0, 4), 0);
        x.undo();
        x.undo();
        x.undo();
        due.is("the oldest one is dropped", x.undo(), NOT_POSSIBLE);
        due.is("count(0)", x.count(0), 1);
        x.pin(0);
        due.is("pin", x.count(12), 1);
        x.unpin(0);
        due.is("unpin", x.count(12), 2);
        x.full();
        due.is("full", x.count(12), 3);
        due.is("count(1)", x.count(1), 0);
        due.is("undo() of full", x.undo(), 2);
        due.is("count(1)", x.count(1), 1);
        due.is("count(9)", x.count(9), 0);
        due.is("undo() of unpin", x.undo(), 1);
        due.is("thingOf(0, 3)", x.thingOf(0, 3), 1);
        due.is("undo() of pin", x.undo(), 0);
        due.is("thingOf(0, 3)", x.thingOf(0, 3), 0);
        x.winter(1);
        due.is("winter", x.count(12), 1);
        x.play();
        due.is("play", x.count(12), 2);
        x.hold(9, 9);
        x.release(0);
        x.tie(0, 9, 0);
        x.loosen(0, 0);
        x.pin(7);
        x.unpin(7);
        x.winter(7);
        x.type('n');
        x.fault(0);
        x.play();
        x.clearText();
        x.survivors(0, 3);
        due.is("errors and the text", x.count(12), 2);

        // Many changes in a row, then all the way back.
        x = withThings(10);
        for (int i = 0; i < 23; i++) {
            x.hold(0, i % 10);
        }
        for (int i = 0; i < 4; i++) {
            due.is("undo()", x.undo(), 3 - i);
            due.is("handOf(0)", x.handOf(0), (21 - i) % 10);
            x.fault(0);
            x.hold(4, 0);
        }
        due.is("undo()", x.undo(), NOT_POSSIBLE);
    }

    private static void type() {
        due.promise("21 type");
        WarmHouses x = new WarmHouses();
        for (int character : new int[] {31, 127, -1, 0, 256 + 110, MIN, MAX}) {
            due.is("type(" + character + ")", x.type(character), INVALID);
        }
        due.is("type(32)", x.type(32), 1);
        due.is("type(126)", x.type(126), 2);
        for (int i = 3; i <= 60; i++) {
            due.is("type(110)", x.type(110), i);
        }
        due.is("type(110)", x.type(110), LIMIT);
        due.is("type(127)", x.type(127), INVALID);
        due.is("count(13)", x.count(13), 60);
    }

    private static void clearText() {
        due.promise("22 clearText");
        WarmHouses x = new WarmHouses();
        due.is("clearText()", x.clearText(), 0);
        text(x, "n;n;x");
        due.is("clearText()", x.clearText(), 5);
        due.is("count(13)", x.count(13), 0);
        due.is("fault(0)", x.fault(0), NOT_FOUND);
        text(x, "n;");
        due.is("play()", x.play(), 1);
        due.is("clearText()", x.clearText(), 2);
        due.is("clearText()", x.clearText(), 0);
    }

    private static void fault(WarmHouses x, String text, int position, int reason) {
        text(x, text);
        due.is("fault(0) of " + text, x.fault(0), position);
        due.is("fault(1) of " + text, x.fault(1), reason);
    }

    private static void faultForm() {
        due.promise("23 fault, form");
        WarmHouses x = withThings(3);
        String[] wrong = {"n", ";", " n;", "n ;", "N;", "n0;", "h;", "h0;", "h0,;", "h0,0", "h0,0,0;", "h,0;", "h0 ,0;",
            "h000,0;", "h0,000;", "h-1,0;", "h0;0;", "l;", "l0,0;", "l000;", "s0,0;", "s0,0,0,0;", "s0,0,;", "s0,0,0",
            "u0;", "u0,0,0;", "p;", "p0,0;", "p0", "w;", "w0,0;", "wx;", "f0;", "f", "q;", "n:", "h0.0;", "~", "h0,0:",
            "p/;", "p:;", "s,0,0;", "p0x;", "p123;", "w9,"};
        for (String text : wrong) {
            fault(x, text, 0, 1);
            fault(x, "n;" + text, 2, 1);
        }
        fault(x, "n;;n;", 2, 1);
        fault(x, "n;n", 2, 1);
        // The form comes ahead of what there is.
        fault(x, "h9,99", 0, 1);
        fault(x, "p99,", 0, 1);
        due.is("fault(-1)", x.fault(-1), INVALID);
        due.is("fault(2)", x.fault(2), INVALID);
        due.is("fault(MIN)", x.fault(MIN), INVALID);
        due.is("fault(MAX)", x.fault(MAX), INVALID);
        x.clearText();
        due.is("fault(0) of an empty text", x.fault(0), NOT_FOUND);
        due.is("fault(1) of an empty text", x.fault(1), NOT_FOUND);
        due.is("fault(2) of an empty text", x.fault(2), INVALID);
    }

    private static void faultReasons() {
        due.promise("23 fault, reasons");
        WarmHouses x = withThings(3);
        x.full();
        x.thing();
        x.thing();
        String[] missing = {"h4,3;", "h0,5;", "h0,0;", "h99,99;", "l4;", "l10;", "s5,0,3;", "s3,3,3;", "s3,0,0;", "u0,0;",
            "u3,3;", "p0;", "p5;", "p30;", "p99;", "w2;", "w3;", "w10;"};
        for (String text : missing) {
            fault(x, text, 0, 2);
        }
        String[] impossible = {"l0;", "l03;", "u3,0;", "u03,02;"};
        for (String text : impossible) {
            fault(x, text, 0, 3);
        }
        String[] possible = {"n;", "h0,3;", "h03,04;", "h0,3;l0;", "s3,0,4;", "s03,02,03;u3,2;", "p3;", "w0;", "w01;", "f;",
            "n;p5;", "n;h0,05;f;p05;"};
        for (String text : possible) {
            fault(x, text, NOT_FOUND, NOT_FOUND);
        }
        x = crowded();
        x.hold(0, 8);
        fault(x, "w0;", 0, 3);
        fault(x, "l0;w0;", NOT_FOUND, NOT_FOUND);
        x = eightPinnedHouses();
        fault(x, "n;", 0, 3);
        x = withThings(30);
        fault(x, "n;", 0, 3);
        fault(x, "f;n;", 2, 3);
        due.is("nothing changes", x.count(1), 30);
    }

    private static void faultOrders() {
        due.promise("23 fault, orders");
        WarmHouses x = new WarmHouses();
        fault(x, "p0;", 0, 2);
        fault(x, "n;p0;p0;", 5, 3);
        fault(x, "n;f;p0;", 4, 2);
        fault(x, "n;h0,0;f;p0;l0;l0;", 15, 3);
        fault(x, "n;n;s0,0,1;u0,0;u0,0;x", 16, 3);
        fault(x, "n;w0;p0;", 5, 2);
        fault(x, "n;p0;w0;w1;w1;h0,0;f;h1,1;", 21, 2);
        StringBuilder many = new StringBuilder();
        for (int i = 0; i < 30; i++) {
            many.append("n;");
        }
        fault(x, many.toString(), NOT_FOUND, NOT_FOUND);
        x.thing();
        due.is("fault(0) of 30 orders", x.fault(0), 58);
        due.is("fault(1) of 30 orders", x.fault(1), 3);
        due.is("nothing changes", x.count(0), 1);
        due.is("count(12)", x.count(12), 1);
    }

    private static void play() {
        due.promise("24 play");
        WarmHouses x = new WarmHouses();
        due.is("play() of an empty text", x.play(), 0);
        due.is("it is a change", x.count(12), 1);
        text(x, "n;n;n;s0,0,01;h3,0;p2;u0,0;s0,1,1;l3;h2,0;w0;");
        due.is("play()", x.play(), 11);
        due.is("count(12)", x.count(12), 2);
        due.is("count(13)", x.count(13), 45);
        due.is("houseOf(0, 2)", x.houseOf(0, 2), set(0, 1, 2));
        due.is("houseOf(0, 0)", x.houseOf(0, 0), 1);
        due.is("thingOf(0, 1)", x.thingOf(0, 1), 3);
        due.is("thingOf(1, 1)", x.thingOf(1, 1), 0);
        due.is("thingOf(2, 3)", x.thingOf(2, 3), 1);
        due.is("thingOf(0, 4)", x.thingOf(0, 4), NOT_FOUND);
        due.is("thingOf(0, 5)", x.thingOf(0, 5), 1);
        due.is("handOf(2)", x.handOf(2), 0);
        due.is("handOf(3)", x.handOf(3), NOT_FOUND);
        due.is("undo()", x.undo(), 1);
        due.is("count(0)", x.count(0), 0);
        for (int i = 0; i < 12; i++) {
            x.thing();
        }
        text(x, "p10;h1,11;f;");
        due.is("play() with numbers of 2 digits", x.play(), 3);
        due.is("needed(0)", x.needed(0), set(10, 11));
        x = new WarmHouses();
        x.play();
        text(x, "n;n;f;l0;");
        due.is("play() with a fault", x.play(), NOT_POSSIBLE);
        due.is("count(0)", x.count(0), 0);
        due.is("count(9)", x.count(9), 0);
        due.is("count(12)", x.count(12), 1);
        text(x, "n;n;f;");
        due.is("play()", x.play(), 3);
        due.is("play() again", x.play(), 3);
        due.is("count(0)", x.count(0), 4);
        due.is("count(9)", x.count(9), 2);
        due.is("count(10)", x.count(10), 4);
    }
}
