import java.io.IOException;
import java.nio.file.Path;
import support.Due;
import support.Sentences;

/** For each sentence of the document's promises: what it asks at its bounds. */
public final class BoundaryCallsTest {
    private static final int INVALID = Due.INVALID;
    private static final int NOT_POSSIBLE = Due.NOT_POSSIBLE;
    private static final int LIMIT = Due.LIMIT;
    private static final int NOT_FOUND = Due.NOT_FOUND;
    private static final int MIN = Integer.MIN_VALUE;
    private static final int MAX = Integer.MAX_VALUE;

    /** 0, 2 and 4 live, 1 and 3 are gone, 5 did not come; all strings are loose, no hand holds a thing. */
    private static final String THREE_LIVE = "5n h0,0 h1,2 h2,4 f l0 l1 l2";
    /** Below, gone, not come, beyond all numbers, and with the lowest bits of 0, 2 and 4. */
    private static final int[] NO_THINGS = {-1, 1, 3, 5, 29, 30, 31, 32, 34, 36, 64, 256, -28, -32, MIN, MAX};
    /** Each thing is tied to the next one, and a hand holds the first. */
    private static final String CHAIN = "30n h2,0" + chain(0, 29);

    private static final Due due = new Due();
    private static Sentences sentences;

    public static void main(String[] args) throws IOException {
        sentences = new Sentences(due, Path.of("../shared/DOC.md"));
        newObject();
        thing();
        thingErrors();
        hold();
        release();
        tie();
        loosen();
        pin();
        unpin();
        winter();
        winterErrors();
        full();
        thingOfPlace();
        thingOfTies();
        thingOfMoves();
        thingOfErrors();
        houseOf();
        handOf();
        noteAt();
        needed();
        survivors();
        survivorsRoom();
        keptBy();
        far();
        countThings();
        countOthers();
        undo();
        type();
        clearText();
        fault();
        play();
        sentences.allTested("Promise");
        due.end();
    }

    private static int set(int... numbers) {
        return Due.set(numbers);
    }

    private static String chain(int first, int last) {
        StringBuilder calls = new StringBuilder();
        for (int i = first; i < last; i++) {
            calls.append(" s").append(i).append(',').append(i % 3).append(',').append(i + 1);
        }
        return calls.toString();
    }

    /** A call with one argument. */
    private interface Call {
        int on(WarmHouses x, int argument);
    }

    /** The call is refused for each of the arguments, and nothing changes. */
    private static void refuses(String scene, String name, Call call, int... arguments) {
        WarmHouses x = Scene.after(scene);
        for (int argument : arguments) {
            due.is(name + " of " + argument, call.on(x, argument), INVALID);
        }
        due.same(name + " changes nothing", Scene.look(x), Scene.look(Scene.after(scene)));
    }

    private static void newObject() {
        String part = "Promise 1: A new object";
        sentences.test(part, "Creates free houses and hands that hold nothing.");
        WarmHouses x = new WarmHouses();
        for (int house = 0; house < 8; house++) {
            due.is("house " + house, x.houseOf(house, 0), NOT_FOUND);
            due.is("its things", x.houseOf(house, 1), 0);
        }
        for (int hand = 0; hand < 4; hand++) {
            due.is("hand " + hand, x.handOf(hand), NOT_FOUND);
        }
        due.is("no thing came", x.thingOf(0, 0), INVALID);
        WarmHouses y = Scene.after("30n h3,29 p0 'n;'");
        due.is("nothing of another object is in it", x.count(0) + x.count(13), 0);
        due.is("nor in one made later", new WarmHouses().count(0), 0);
        due.is("the other one keeps it", y.count(0), 30);
    }

    private static void thing() {
        String part = "Promise 2: thing";
        sentences.test(part, "Lets a new thing come, to room of the age 0");
        WarmHouses x = Scene.after("n");
        due.is("the first place", x.thingOf(0, 1), 0);
        due.is("its age", x.thingOf(0, 2), 0);
        due.is("beside things of its age", Scene.after("2n").thingOf(1, 1), 1);
        due.is("not beside older ones", Scene.after("n p0 w1 n").thingOf(1, 1), 10);
        due.is("the last place of the last house", Scene.after(Scene.warm(7) + "5n").thingOf(11, 1), 74);

        sentences.test(part, "its strings are loose");
        x = Scene.after("30n");
        for (int string = 0; string < 3; string++) {
            due.is("string " + string + " of the first", x.thingOf(0, 4 + string), NOT_FOUND);
            due.is("string " + string + " of the last", x.thingOf(29, 4 + string), NOT_FOUND);
        }
        x = Scene.after("n s0,0,0 s0,1,0 ^ ^ ^ n");
        due.is("also where a state was undone", x.thingOf(0, 4), NOT_FOUND);
        due.is("it is not pinned", Scene.after("n p0 ^ ^ n").thingOf(0, 3), 0);

        sentences.test(part, "Returns its number");
        due.is("the first", new WarmHouses().thing(), 0);
        due.is("the last", Scene.after("29n").thing(), 29);
        due.is("behind one that is gone", Scene.after("n f").thing(), 1);
        due.is("the number of one whose coming was undone", Scene.after("2n ^").thing(), 1);
    }

    private static void thingErrors() {
        String part = "Promise 2: thing";
        sentences.test(part, "NOT_POSSIBLE if there is no room");
        due.is("a house for one more", Scene.after(Scene.warm(7)).thing(), 7);
        due.is("a place for one more", Scene.after(Scene.warm(7) + "4n").thing(), 11);
        due.is("none", Scene.after(Scene.warm(7) + "5n").thing(), NOT_POSSIBLE);
        due.is("none, the houses have places for older ones", Scene.after(Scene.warm(8)).thing(), NOT_POSSIBLE);
        due.is("again when one is gone", Scene.after(Scene.warm(7) + "5n h0,8 f").thing(), 12);

        sentences.test(part, "LIMIT_REACHED if there were 30 things");
        due.is("29 were", Scene.after("29n").thing(), 29);
        due.is("30 are", Scene.after("30n").thing(), LIMIT);
        due.is("30 were", Scene.after("30n f").thing(), LIMIT);
    }

    private static void hold() {
        String part = "Promise 3: hold";
        sentences.test(part, "Lets a hand hold a thing, in place of the one that it holds.");
        WarmHouses x = Scene.after("2n h1,0 h1,1");
        due.is("the new one", x.handOf(1), 1);
        due.is("the other one is not held", x.thingOf(0, 7), 0);
        due.is("the same one again", x.hold(1, 1), 1);
        due.is("by another hand too", x.hold(2, 1), 2);
        due.is("both hold it", x.thingOf(1, 7), set(1, 2));

        sentences.test(part, "`hand`: 0 to 3");
        refuses("n", "hold(., 0)", (y, hand) -> y.hold(hand, 0), -1, 4, 5, 32, MIN, MAX);
        due.is("hold(0, 0)", Scene.after("n").hold(0, 0), 1);
        due.is("hold(3, 0)", Scene.after("n").hold(3, 0), 1);

        sentences.test(part, "`thing`: number of a thing that lives");
        refuses(THREE_LIVE, "hold(0, .)", (y, thing) -> y.hold(0, thing), NO_THINGS);
        due.is("the first of 30", Scene.after("30n").hold(0, 0), 1);
        due.is("the last of 30", Scene.after("30n").hold(0, 29), 1);

        sentences.test(part, "Returns how many hands hold something then");
        x = Scene.after("2n");
        for (int hand = 0; hand < 4; hand++) {
            due.is("hold(" + hand + ", 0)", x.hold(hand, 0), hand + 1);
        }
        due.is("all four still", x.hold(0, 1), 4);

        sentences.test(part, "INVALID_ARGUMENT if an argument is out of range");
        due.is("both", x.hold(4, 2), INVALID);
        due.is("of an object without things", new WarmHouses().hold(0, 0), INVALID);
    }

    private static void release() {
        String part = "Promise 4: release";
        sentences.test(part, "Lets a hand let go.");
        WarmHouses x = Scene.after("n h0,0 h1,0 h3,0 l1");
        due.is("it", x.handOf(1), NOT_FOUND);
        due.is("no other one", x.thingOf(0, 7), set(0, 3));

        sentences.test(part, "`hand`: 0 to 3");
        refuses("n h0,0 h3,0", "release(.)", WarmHouses::release, -1, 4, 32, MIN, MAX);
        due.is("hand 0", Scene.after("n h0,0").release(0), 0);
        due.is("hand 3", Scene.after("n h3,0").release(3), 0);

        sentences.test(part, "Returns the thing that it held");
        due.is("the first of 30", Scene.after("30n h0,0 h1,29").release(0), 0);
        due.is("the last of 30", Scene.after("30n h0,0 h1,29").release(1), 29);

        sentences.test(part, "INVALID_ARGUMENT if hand is out of range");
        due.is("of a new object", new WarmHouses().release(4), INVALID);

        sentences.test(part, "NOT_POSSIBLE if it holds none");
        due.is("it never did", new WarmHouses().release(0), NOT_POSSIBLE);
        due.is("it let go", Scene.after("n h3,0 l3").release(3), NOT_POSSIBLE);
        due.is("others do", Scene.after("n h0,0 h2,0 h3,0").release(1), NOT_POSSIBLE);
    }

    private static void tie() {
        String part = "Promise 5: tie";
        sentences.test(part, "Ties a string of a thing to a thing, whatever it was tied to.");
        WarmHouses x = Scene.after("3n s0,1,0 s0,1,1 s0,1,2");
        due.is("the last one", x.thingOf(0, 5), 2);
        due.is("no other one", x.thingOf(1, 8) + x.thingOf(0, 8), 0);
        due.is("the same one again", x.tie(0, 1, 2), 0);
        due.is("the other strings are loose", x.thingOf(0, 4), NOT_FOUND);

        sentences.test(part, "`thing`: number of a thing that lives");
        refuses(THREE_LIVE, "tie(., 0, 0)", (y, thing) -> y.tie(thing, 0, 0), NO_THINGS);
        sentences.test(part, "`string`: 0 to 2");
        refuses(THREE_LIVE, "tie(2, ., 0)", (y, string) -> y.tie(2, string, 0), -1, 3, 4, -6, 6, 32, MIN, MAX);
        due.is("tie(29, 2, 0)", Scene.after("30n").tie(29, 2, 0), 0);
        due.is("tie(0, 0, 29)", Scene.after("30n").tie(0, 0, 29), 0);
        sentences.test(part, "`to`: number of a thing that lives");
        refuses(THREE_LIVE, "tie(0, 0, .)", (y, to) -> y.tie(0, 0, to), NO_THINGS);

        sentences.test(part, "Returns 1 if the string is noted, otherwise 0");
        due.is("down by 1", Scene.after(Scene.EACH_AGE).tie(1, 0, 2), 1);
        due.is("down by 2", Scene.after(Scene.EACH_AGE).tie(0, 2, 2), 1);
        due.is("to itself", Scene.after(Scene.EACH_AGE).tie(0, 2, 0), 0);
        due.is("up", Scene.after(Scene.EACH_AGE).tie(2, 0, 1), 0);
        due.is("to the same age", Scene.after("2n").tie(0, 0, 1), 0);

        sentences.test(part, "INVALID_ARGUMENT if an argument is out of range");
        due.is("all three", x.tie(3, 3, 3), INVALID);
        due.is("of an object without things", new WarmHouses().tie(0, 0, 0), INVALID);
    }

    private static void loosen() {
        String part = "Promise 6: loosen";
        sentences.test(part, "Loosens a string.");
        WarmHouses x = Scene.after("2n s0,0,1 s0,1,1 s0,2,1 s1,0,0 u0,1");
        due.is("it", x.thingOf(0, 5), NOT_FOUND);
        due.is("not the one ahead", x.thingOf(0, 4), 1);
        due.is("not the one behind", x.thingOf(0, 6), 1);
        due.is("nor one of another thing", x.thingOf(1, 4), 0);
        due.is("the last one of the last thing", Scene.after("30n s29,2,7 u29,2").thingOf(29, 6), NOT_FOUND);

        sentences.test(part, "`thing`: number of a thing that lives");
        refuses(THREE_LIVE + " s0,0,0 s2,0,2", "loosen(., 0)", (y, thing) -> y.loosen(thing, 0), NO_THINGS);
        sentences.test(part, "`string`: 0 to 2");
        refuses(THREE_LIVE + " s0,0,0 s2,0,2 s2,2,2 s4,0,4", "loosen(2, .)", (y, string) -> y.loosen(2, string),
            -1, 3, 6, -6, 32, MIN, MAX);

        sentences.test(part, "Returns the thing to which it was tied");
        due.is("string 0 of the first to the last", Scene.after("30n s0,0,29").loosen(0, 0), 29);
        due.is("string 2 of the last to the first", Scene.after("30n s29,2,0").loosen(29, 2), 0);
        due.is("to itself", Scene.after("30n s7,1,7").loosen(7, 1), 7);

        sentences.test(part, "INVALID_ARGUMENT if an argument is out of range");
        due.is("both", new WarmHouses().loosen(0, 3), INVALID);

        sentences.test(part, "NOT_POSSIBLE if it is loose");
        due.is("it never was tied", x.loosen(1, 2), NOT_POSSIBLE);
        due.is("it was loosened", x.loosen(0, 1), NOT_POSSIBLE);
    }

    private static void pin() {
        String part = "Promise 7: pin";
        sentences.test(part, "Pins a thing.");
        WarmHouses x = Scene.after("3n p1");
        due.is("it", x.thingOf(1, 3), 1);
        due.is("not the one ahead", x.thingOf(0, 3), 0);
        due.is("not the one behind", x.thingOf(2, 3), 0);

        sentences.test(part, "`thing`: number of a thing that lives");
        refuses(THREE_LIVE, "pin(.)", WarmHouses::pin, NO_THINGS);

        sentences.test(part, "Returns how many things are pinned then");
        due.is("the first of 30", Scene.after("30n").pin(0), 1);
        due.is("the last of 30", Scene.after("30n p0").pin(29), 2);
        due.is("again without the others", Scene.after("2n p0 o0").pin(1), 1);

        sentences.test(part, "INVALID_ARGUMENT");
        due.is("of a new object", new WarmHouses().pin(0), INVALID);

        sentences.test(part, "NOT_POSSIBLE if it is pinned");
        due.is("it is", Scene.after("30n p29").pin(29), NOT_POSSIBLE);
        due.is("it was", Scene.after("30n p29 o29").pin(29), 1);
        due.is("still behind a winter", Scene.after("n p0 w0").pin(0), NOT_POSSIBLE);
    }

    private static void unpin() {
        String part = "Promise 8: unpin";
        sentences.test(part, "Takes the pin off a thing.");
        WarmHouses x = Scene.after("3n p0 p1 p2 o1");
        due.is("it", x.thingOf(1, 3), 0);
        due.is("not the one ahead", x.thingOf(0, 3), 1);
        due.is("not the one behind", x.thingOf(2, 3), 1);

        sentences.test(part, "`thing`: number of a thing that lives");
        refuses(THREE_LIVE + " p0 p2 p4", "unpin(.)", WarmHouses::unpin, NO_THINGS);

        sentences.test(part, "Returns how many things are pinned then");
        due.is("one is left", Scene.after("30n p0 p29").unpin(29), 1);
        due.is("none is left", Scene.after("30n p0").unpin(0), 0);

        sentences.test(part, "INVALID_ARGUMENT");
        due.is("of a new object", new WarmHouses().unpin(0), INVALID);

        sentences.test(part, "NOT_POSSIBLE if it is not pinned");
        due.is("it never was", Scene.after("2n p0").unpin(1), NOT_POSSIBLE);
        due.is("it was", Scene.after("2n p0 p1 o1").unpin(1), NOT_POSSIBLE);
    }

    private static void winter() {
        String part = "Promise 9: winter";
        sentences.test(part, "Lets a winter come.");
        WarmHouses x = Scene.after("2n h0,1 w0");
        due.is("a survivor", x.thingOf(1, 2), 1);
        due.is("one that is gone", x.thingOf(0, 0), 0);
        due.is("how many winters", x.count(8), 1);

        sentences.test(part, "Returns how many things are gone by it");
        due.is("there is none, 0", new WarmHouses().winter(0), 0);
        due.is("there is none, 1", new WarmHouses().winter(1), 0);
        due.is("all of 30", Scene.after("30n").winter(0), 30);
        due.is("none of one", Scene.after("n p0").winter(1), 0);
        due.is("not those that were gone before", Scene.after("5n f 3n h0,7").winter(1), 2);
    }

    private static void winterErrors() {
        String part = "Promise 9: winter";
        sentences.test(part, "`age`: 0 or 1");
        refuses(Scene.EACH_AGE, "winter(.)", WarmHouses::winter, -1, 2, 3, 32, 33, MIN, MAX);
        due.is("winter(0)", Scene.after(Scene.EACH_AGE).winter(0), 1);
        due.is("winter(1)", Scene.after(Scene.EACH_AGE).winter(1), 2);

        sentences.test(part, "INVALID_ARGUMENT if age is out of range");
        due.is("winter(2) of a new object", new WarmHouses().winter(2), INVALID);
        due.is("winter(-1) of a new object", new WarmHouses().winter(-1), INVALID);

        sentences.test(part, "NOT_POSSIBLE if there is no room for a survivor");
        due.is("none", Scene.after(Scene.NO_ROOM).winter(0), NOT_POSSIBLE);
        due.is("a house", Scene.after(Scene.warm(6) + "2n h0,7").winter(0), 1);
        due.is("no need of any", Scene.after(Scene.NO_ROOM + " l0").winter(0), 2);
        due.is("no need of any for one that is pinned", Scene.after(Scene.NO_ROOM + " p8").winter(0), 1);
        due.is("with a pinned one beside it", Scene.after(Scene.NO_ROOM + " p7").winter(0), 0);
        due.is("that one only for the other age", Scene.after(Scene.warm(6) + "n p6 w0 n h0,7").winter(1), NOT_POSSIBLE);
        due.is("the age 2 has it", Scene.after(Scene.warm(6) + "n p6 w0 n h0,7").winter(0), 0);
    }

    private static void full() {
        String part = "Promise 10: full";
        sentences.test(part, "Makes a full turn.");
        WarmHouses x = Scene.after("3n h0,1 f");
        due.is("one that is needed", x.thingOf(1, 1), 1);
        due.is("one that is forgotten", x.thingOf(2, 0), 0);
        due.is("how many full turns", x.count(9), 1);

        sentences.test(part, "Returns how many things are gone by it.");
        due.is("there is none", new WarmHouses().full(), 0);
        due.is("all of 30", Scene.after("30n").full(), 30);
        due.is("29 of 30", Scene.after("30n p29").full(), 29);
        due.is("none of 30", Scene.after(CHAIN).full(), 0);
        due.is("not those that were gone before", Scene.after("5n f 2n").full(), 2);
        due.is("of the age 2 too", Scene.after(Scene.EACH_AGE).full(), 3);
    }

    private static void thingOfPlace() {
        String part = "Promise 11: thingOf";
        sentences.test(part, "Returns something of a thing.");
        WarmHouses x = Scene.after(Scene.warm(7) + "5n h0,11 h3,11 s11,0,11 s11,2,0 s0,1,11");
        int[] dues = {1, 74, 0, 0, 11, NOT_FOUND, 0, set(0, 3), set(0, 11), 0};
        for (int what = 0; what < 10; what++) {
            due.is("thingOf(11, " + what + ")", x.thingOf(11, what), dues[what]);
        }

        sentences.test(part, "`thing`: number of a thing that came, also one that is gone");
        refuses("2n f", "thingOf(., 0)", (y, thing) -> y.thingOf(thing, 0), -1, 2, 29, 30, 31, 32, 33, MIN, MAX);
        due.is("the first", Scene.after("30n f").thingOf(0, 0), 0);
        due.is("the last", Scene.after("30n f").thingOf(29, 0), 0);

        sentences.test(part, "`what`: 0: 1 if it lives, otherwise 0");
        due.is("it lives", Scene.after("n").thingOf(0, 0), 1);
        due.is("it is gone by a winter", Scene.after("n w0").thingOf(0, 0), 0);
        due.is("it is gone by a full turn", Scene.after("n f").thingOf(0, 0), 0);
        due.is("that was undone", Scene.after("n f ^").thingOf(0, 0), 1);

        sentences.test(part, "1: ten times its house plus its place");
        due.is("the first of all", Scene.after("n").thingOf(0, 1), 0);
        due.is("the last of all", x.thingOf(11, 1), 74);
        due.is("the last of a house", Scene.after("6n").thingOf(4, 1), 4);
        due.is("the first of a house", Scene.after("6n").thingOf(5, 1), 10);

        sentences.test(part, "2: its age");
        for (int thing = 0; thing < 3; thing++) {
            due.is("thingOf(" + thing + ", 2)", Scene.after(Scene.EACH_AGE).thingOf(thing, 2), 2 - thing);
        }

        sentences.test(part, "3: 1 if it is pinned, otherwise 0");
        due.is("it is", Scene.after("30n p29").thingOf(29, 3), 1);
        due.is("it is not", Scene.after("30n p29").thingOf(28, 3), 0);
        due.is("it is gone", Scene.after("2n p0 o0 f").thingOf(0, 3), 0);
    }

    private static void thingOfTies() {
        String part = "Promise 11: thingOf";
        sentences.test(part, "4 to 6: the thing to which its string 0 to 2 is tied");
        WarmHouses x = Scene.after("30n s29,0,29 s29,1,0 s29,2,28 s28,2,1");
        due.is("string 0", x.thingOf(29, 4), 29);
        due.is("string 1", x.thingOf(29, 5), 0);
        due.is("string 2", x.thingOf(29, 6), 28);
        due.is("string 2 of another one", x.thingOf(28, 6), 1);

        sentences.test(part, "7: the set of hands that hold it");
        due.is("none", Scene.after("n").thingOf(0, 7), 0);
        due.is("the last one", Scene.after("2n h3,1").thingOf(1, 7), 8);
        due.is("all", Scene.after("n h0,0 h1,0 h2,0 h3,0").thingOf(0, 7), 15);
        due.is("none of one that is gone", Scene.after("2n h0,0 l0 f").thingOf(0, 7), 0);

        sentences.test(part, "8: the set of things of which a string is tied to it");
        due.is("none", x.thingOf(2, 8), 0);
        due.is("itself", x.thingOf(29, 8), set(29));
        due.is("one by three strings", Scene.after("2n s1,0,0 s1,1,0 s1,2,0").thingOf(0, 8), set(1));
        StringBuilder all = new StringBuilder("30n");
        for (int i = 0; i < 30; i++) {
            all.append(" s").append(i).append(',').append(i % 3).append(",15");
        }
        due.is("all thirty", Scene.after(all.toString()).thingOf(15, 8), (1 << 30) - 1);
        due.is("none that is gone", Scene.after("2n h0,0 s1,0,0 f").thingOf(0, 8), 0);
    }

    private static void thingOfMoves() {
        String part = "Promise 11: thingOf";
        sentences.test(part, "9: how often it has moved");
        due.is("not yet", Scene.after("n").thingOf(0, 9), 0);
        due.is("once", Scene.after("n h0,0 w0").thingOf(0, 9), 1);
        due.is("twice", Scene.after("n h0,0 w0 w1").thingOf(0, 9), 2);
        due.is("not more than twice", Scene.after("n h0,0 w0 w1 w1 w0").thingOf(0, 9), 2);
        due.is("a pinned one does not move", Scene.after("n h0,0 p0 w0 w1").thingOf(0, 9), 0);
        due.is("the last thing of all", Scene.after("29n f n h0,29 w0 w1").thingOf(29, 9), 2);
        due.is("a move in its house", Scene.after("2n p0 h0,1 w0").thingOf(1, 9), 1);
        due.is("an undone winter", Scene.after("n h0,0 w0 w1 ^").thingOf(0, 9), 1);
        due.is("of one that is gone", Scene.after("n h0,0 w0 w1 l0 f").thingOf(0, 9), 2);
        WarmHouses x = Scene.after(Scene.NO_ROOM);
        x.winter(0);
        due.is("a winter that did not come", x.thingOf(8, 9), 0);
    }

    private static void thingOfErrors() {
        String part = "Promise 11: thingOf";
        sentences.test(part, "Returns the number");
        due.is("0 is a number of a thing", Scene.after("n s0,0,0").thingOf(0, 4), 0);

        sentences.test(part, "INVALID_ARGUMENT if there was no such thing or what is out of range");
        refuses("2n", "thingOf(1, .)", (y, what) -> y.thingOf(1, what), -1, 10, 11, 32, MIN, MAX);
        refuses("2n f", "thingOf(1, .) of one that is gone", (y, what) -> y.thingOf(1, what), -1, 10, MIN, MAX);
        due.is("of a new object", new WarmHouses().thingOf(0, 0), INVALID);
        due.is("of one whose coming was undone", Scene.after("n ^").thingOf(0, 0), INVALID);

        sentences.test(part, "NOT_FOUND for 1 and 2 if it is gone, for 4 to 6 if the string is loose");
        WarmHouses x = Scene.after("30n h0,0 s29,0,29 s29,2,0 f");
        int[] gone = {0, NOT_FOUND, NOT_FOUND, 0, NOT_FOUND, NOT_FOUND, NOT_FOUND, 0, 0, 0};
        for (int what = 0; what < 10; what++) {
            due.is("thingOf(29, " + what + ") of one that is gone", x.thingOf(29, what), gone[what]);
        }
        x = Scene.after("n s0,1,0");
        due.is("string 0 is loose", x.thingOf(0, 4), NOT_FOUND);
        due.is("string 1 is tied to thing 0", x.thingOf(0, 5), 0);
        due.is("string 2 is loose", x.thingOf(0, 6), NOT_FOUND);
    }

    private static void houseOf() {
        String part = "Promise 12: houseOf";
        sentences.test(part, "Returns something of a house.");
        due.is("houseOf(7, 7)", Scene.after(Scene.warm(7) + "5n").houseOf(7, 7), 11);

        sentences.test(part, "`house`: 0 to 7");
        refuses("6n", "houseOf(., 1)", (y, house) -> y.houseOf(house, 1), -1, 8, 9, 32, MIN, MAX);
        due.is("the first", Scene.after(Scene.warm(8)).houseOf(0, 2), set(0));
        due.is("the last", Scene.after(Scene.warm(8)).houseOf(7, 2), set(7));

        sentences.test(part, "`what`: 0: its age");
        WarmHouses x = Scene.after(Scene.EACH_AGE);
        due.is("age 2", x.houseOf(0, 0), 2);
        due.is("age 0", x.houseOf(1, 0), 0);
        due.is("age 1", x.houseOf(2, 0), 1);

        sentences.test(part, "1: how many things live in it");
        x = Scene.after("6n");
        due.is("five", x.houseOf(0, 1), 5);
        due.is("one", x.houseOf(1, 1), 1);
        due.is("none", x.houseOf(2, 1), 0);

        sentences.test(part, "2: the set of things that live in it");
        x = Scene.after("30n");
        due.is("the first five", x.houseOf(0, 2), 31);
        due.is("the last five", x.houseOf(5, 2), 31 << 25);
        due.is("none", x.houseOf(6, 2), 0);
        due.is("not one that is gone", Scene.after("3n h0,1 f").houseOf(0, 2), set(1));

        sentences.test(part, "3 to 7: the thing in its place 0 to 4");
        for (int place = 0; place < 5; place++) {
            due.is("place " + place + " of the first house", x.houseOf(0, 3 + place), place);
            due.is("place " + place + " of the sixth house", x.houseOf(5, 3 + place), 25 + place);
        }

        sentences.test(part, "Returns the number");
        due.is("0 is a number of a thing", x.houseOf(0, 3), 0);

        sentences.test(part, "INVALID_ARGUMENT if an argument is out of range");
        refuses("11n", "houseOf(1, .)", (y, what) -> y.houseOf(1, what), -1, -2, 8, 9, 32, MIN, MAX);
        due.is("houseOf(7, 8)", x.houseOf(7, 8), INVALID);
        due.is("houseOf(8, 8)", x.houseOf(8, 8), INVALID);

        sentences.test(part, "NOT_FOUND for 0 if it is free, for 3 to 7 if the place is empty");
        x = Scene.after("5n h0,2 f");
        int[] dues = {0, 1, set(2), NOT_FOUND, NOT_FOUND, 2, NOT_FOUND, NOT_FOUND};
        for (int what = 0; what < 8; what++) {
            due.is("houseOf(0, " + what + ") of one thing", x.houseOf(0, what), dues[what]);
            due.is("houseOf(7, " + what + ") of none", x.houseOf(7, what), what == 1 || what == 2 ? 0 : NOT_FOUND);
        }
    }

    private static void handOf() {
        String part = "Promise 13: handOf";
        sentences.test(part, "Returns the thing that a hand holds.");
        WarmHouses x = Scene.after("30n h0,29 h3,0");
        due.is("handOf(0)", x.handOf(0), 29);
        due.is("handOf(3)", x.handOf(3), 0);

        sentences.test(part, "`hand`: 0 to 3");
        refuses("n h0,0 h3,0", "handOf(.)", WarmHouses::handOf, -1, 4, 32, MIN, MAX);

        sentences.test(part, "Returns its number");
        due.is("the number of the first thing is 0", Scene.after("n h1,0").handOf(1), 0);

        sentences.test(part, "INVALID_ARGUMENT if hand is out of range");
        due.is("of a new object", new WarmHouses().handOf(4), INVALID);

        sentences.test(part, "NOT_FOUND if it holds none");
        due.is("it never did", x.handOf(1), NOT_FOUND);
        due.is("it let go", Scene.after("n h1,0 l1").handOf(1), NOT_FOUND);
    }

    private static void noteAt() {
        String part = "Promise 14: noteAt";
        sentences.test(part, "Returns a string that is noted, in the order of the things, then of the strings.");
        WarmHouses x = Scene.after("n h0,0 w0 w1 n h1,1 w0 n s1,2,2 s1,0,2 s0,2,2 s0,1,1 s2,0,0 s0,0,0");
        int[] dues = {1, 2, 10, 12, NOT_FOUND};
        for (int index = 0; index < 5; index++) {
            due.is("noteAt(" + index + ")", x.noteAt(index), dues[index]);
        }

        sentences.test(part, "`index`: 0 for the first one, and so on");
        due.is("one alone is at 0", Scene.after("n h0,0 w0 n s0,0,1").noteAt(0), 0);
        due.is("none is at 1", Scene.after("n h0,0 w0 n s0,0,1").noteAt(1), NOT_FOUND);

        sentences.test(part, "Returns ten times the thing plus the string");
        due.is("0 and 0", Scene.after("n h0,0 w0 n s0,0,1").noteAt(0), 0);
        due.is("28 and 2", Scene.after("28n f n h0,28 w0 n s28,2,29").noteAt(0), 282);

        sentences.test(part, "INVALID_ARGUMENT if index is negative");
        refuses("n h0,0 w0 n s0,0,1", "noteAt(.)", WarmHouses::noteAt, -1, -2, -90, MIN);
        due.is("noteAt(-1) of a new object", new WarmHouses().noteAt(-1), INVALID);

        sentences.test(part, "NOT_FOUND if there are not so many");
        due.is("there is none", new WarmHouses().noteAt(0), NOT_FOUND);
        StringBuilder many = new StringBuilder("10n h0,0" + chain(0, 9) + " w0 n");
        for (int i = 0; i < 30; i++) {
            many.append(" s").append(i / 3).append(',').append(i % 3).append(",10");
        }
        x = Scene.after(many.toString());
        due.is("the last of thirty", x.noteAt(29), 92);
        due.is("one more", x.noteAt(30), NOT_FOUND);
        due.is("noteAt(90)", x.noteAt(90), NOT_FOUND);
        due.is("noteAt(MAX)", x.noteAt(MAX), NOT_FOUND);
        due.is("one that is gone has none", Scene.after("n h0,0 w0 n s0,0,1 l0 f").noteAt(0), NOT_FOUND);
    }

    private static void needed() {
        String part = "Promise 15: needed";
        sentences.test(part, "Returns the things that are needed, or forgotten.");
        WarmHouses x = Scene.after("6n p2 h3,5 s5,2,4");
        due.is("needed(0)", x.needed(0), set(2, 4, 5));
        due.is("needed(1)", x.needed(1), set(0, 1, 3));

        sentences.test(part, "`what`: 0: needed");
        due.is("none", Scene.after("30n").needed(0), 0);
        due.is("all of 30", Scene.after(CHAIN).needed(0), (1 << 30) - 1);
        sentences.test(part, "1: forgotten");
        due.is("none", Scene.after(CHAIN).needed(1), 0);
        due.is("all of 30", Scene.after("30n").needed(1), (1 << 30) - 1);
        due.is("not those that are gone", Scene.after("30n p29 f").needed(1), 0);

        sentences.test(part, "Returns the set of things");
        due.is("the empty one of a new object", new WarmHouses().needed(0) + new WarmHouses().needed(1), 0);

        sentences.test(part, "INVALID_ARGUMENT if what is out of range");
        refuses("2n", "needed(.)", WarmHouses::needed, -1, 2, 32, MIN, MAX);
    }

    private static void survivors() {
        String part = "Promise 16: survivors";
        sentences.test(part, "Tells about a winter that could come.");
        WarmHouses x = Scene.after("4n h0,1 s1,0,3");
        due.is("who", x.survivors(0, 0), set(1, 3));
        due.is("no winter came", x.count(8), 0);
        due.is("none moved", x.count(11), 0);
        due.is("no state", x.count(12), 4);

        sentences.test(part, "`age`: 0 or 1");
        for (int what = 0; what < 4; what++) {
            int of = what;
            refuses(Scene.EACH_AGE, "survivors(., " + what + ")", (y, age) -> y.survivors(age, of), -1, 2, 3, 32, MIN, MAX);
        }
        due.is("age 0", Scene.after(Scene.EACH_AGE + " h0,1 h1,2").survivors(0, 0), set(2));
        due.is("age 1", Scene.after(Scene.EACH_AGE + " h0,1 h1,2").survivors(1, 0), set(1, 2));

        sentences.test(part, "`what`: 0: the survivors, as a set");
        due.is("none", Scene.after("30n").survivors(1, 0), 0);
        due.is("all of 30", Scene.after(CHAIN).survivors(1, 0), (1 << 30) - 1);
        due.is("not one that the winter does not concern", Scene.after(Scene.EACH_AGE + " h0,0").survivors(1, 0), 0);

        sentences.test(part, "1: those who would be gone, as a set");
        due.is("all of 30", Scene.after("30n").survivors(0, 1), (1 << 30) - 1);
        due.is("none", Scene.after(CHAIN).survivors(0, 1), 0);
        due.is("not one that the winter does not concern", Scene.after(Scene.EACH_AGE).survivors(0, 1), set(2));
        due.is("not one that is gone", Scene.after("2n f n").survivors(0, 1), set(2));

        sentences.test(part, "2: how many would move");
        due.is("none", Scene.after("30n").survivors(0, 2), 0);
        due.is("all of 30", Scene.after(CHAIN).survivors(0, 2), 30);
        due.is("not a pinned one", Scene.after("3n p0 h0,0 h1,1").survivors(0, 2), 1);
    }

    private static void survivorsRoom() {
        String part = "Promise 16: survivors";
        String ten = "30n h0,0" + chain(0, 9);
        sentences.test(part, "3: 1 if there is room for all survivors, otherwise 0");
        due.is("for ten, in two houses", Scene.after(ten).survivors(0, 3), 1);
        due.is("not for eleven", Scene.after(ten + " h1,29").survivors(0, 3), 0);
        due.is("there is no survivor", Scene.after(Scene.NO_ROOM + " l0").survivors(0, 3), 1);
        due.is("those that are pinned need none", Scene.after(Scene.NO_ROOM + " p8").survivors(1, 3), 1);
        due.is("there is no thing", new WarmHouses().survivors(1, 3), 1);

        sentences.test(part, "(0 to 2 are told whether there is or not)");
        WarmHouses x = Scene.after(ten + " h1,29");
        due.is("survivors(0, 0)", x.survivors(0, 0), (1 << 10) - 1 | set(29));
        due.is("survivors(0, 1)", x.survivors(0, 1), (1 << 29) - (1 << 10));
        due.is("survivors(0, 2)", x.survivors(0, 2), 11);

        sentences.test(part, "Returns the number");
        due.is("a set of bits", Scene.after("30n p29").survivors(0, 0), 1 << 29);

        sentences.test(part, "INVALID_ARGUMENT if an argument is out of range");
        refuses(Scene.NO_ROOM, "survivors(1, .)", (y, what) -> y.survivors(1, what), -1, 4, 5, 32, MIN, MAX);
        due.is("both", x.survivors(2, 4), INVALID);
    }

    private static void keptBy() {
        String part = "Promise 17: keptBy";
        sentences.test(part, "Returns the things that would be forgotten, and are not now, if a thing was gone");
        due.is("the first keeps all others", Scene.after(CHAIN).keptBy(0), (1 << 30) - 2);
        due.is("the last keeps none", Scene.after(CHAIN).keptBy(29), 0);
        due.is("one in between", Scene.after(CHAIN).keptBy(27), set(28, 29));
        due.is("two ways: none of them keeps it", Scene.after("4n h0,0 s0,0,1 s0,1,2 s1,0,3 s2,0,3").keptBy(1), 0);
        due.is("a forgotten one keeps none", Scene.after("2n s0,0,1").keptBy(0), 0);
        due.is("one that is forgotten now is not told", Scene.after("3n h0,0 s1,0,2").keptBy(0), 0);
        due.is("one that is held itself is not kept", Scene.after("2n h0,0 h1,1 s0,0,1").keptBy(0), 0);
        due.is("by its pin", Scene.after("2n p0 s0,1,1").keptBy(0), set(1));

        sentences.test(part, "(and all strings that are tied to it were loose, the hands that hold it empty)");
        due.is("all four hands", Scene.after("2n h0,0 h1,0 h2,0 h3,0 s0,2,1").keptBy(0), set(1));
        due.is("a string to it", Scene.after("3n h0,0 s0,0,1 s1,0,2").keptBy(1), set(2));
        due.is("a string to itself", Scene.after("2n h0,0 s0,0,0 s0,1,1 s1,0,0").keptBy(0), set(1));
        WarmHouses x = Scene.after("2n h0,0 s0,2,1");
        x.keptBy(0);
        due.is("the hand holds it still", x.handOf(0), 0);
        due.is("the string is tied still", x.thingOf(0, 6), 1);

        sentences.test(part, "`thing`: number of a thing that lives");
        refuses(THREE_LIVE, "keptBy(.)", WarmHouses::keptBy, NO_THINGS);

        sentences.test(part, "Returns the set of things, without this one");
        due.is("one alone", Scene.after("n h0,0").keptBy(0), 0);
        due.is("the last one alone", Scene.after("30n p29").keptBy(29), 0);

        sentences.test(part, "INVALID_ARGUMENT.");
        due.is("of a new object", new WarmHouses().keptBy(0), INVALID);
    }

    private static void far() {
        String part = "Promise 18: far";
        sentences.test(part, "Tells by how many strings, at least, a thing is reached from a thing that a hand holds or that is "
            + "pinned.");
        due.is("one", Scene.after(CHAIN).far(1), 1);
        due.is("29", Scene.after(CHAIN).far(29), 29);
        due.is("a shorter way", Scene.after(CHAIN + " s0,1,28").far(29), 2);
        due.is("from one that is pinned", Scene.after(CHAIN + " p20").far(29), 9);
        due.is("from the nearest one", Scene.after(CHAIN + " p20 h0,27").far(29), 2);

        sentences.test(part, "`thing`: number of a thing that lives");
        refuses(THREE_LIVE + " h0,0 h1,2 h2,4", "far(.)", WarmHouses::far, NO_THINGS);

        sentences.test(part, "Returns how many, 0 if it is such a thing itself");
        due.is("held by the last hand", Scene.after("30n h3,29").far(29), 0);
        due.is("pinned", Scene.after("30n p29").far(29), 0);
        due.is("and reached from another one", Scene.after("2n p1 h0,0 s0,0,1 s1,0,0").far(1), 0);

        sentences.test(part, "INVALID_ARGUMENT");
        due.is("of a new object", new WarmHouses().far(0), INVALID);

        sentences.test(part, "NOT_FOUND if it is forgotten");
        due.is("it alone", Scene.after("n").far(0), NOT_FOUND);
        due.is("beside one that is held", Scene.after("2n h0,0 s1,0,0").far(1), NOT_FOUND);
        due.is("reached from a forgotten one alone", Scene.after("3n h0,0 s1,0,2 s2,0,1").far(2), NOT_FOUND);
        due.is("tied to itself alone", Scene.after("30n s29,2,29").far(29), NOT_FOUND);
    }

    private static void countThings() {
        String part = "Promise 19: count";
        sentences.test(part, "`what`: 0: things that came");
        due.is("none", new WarmHouses().count(0), 0);
        due.is("30, all gone", Scene.after("30n f").count(0), 30);
        due.is("not one that was undone", Scene.after("2n ^").count(0), 1);
        sentences.test(part, "1: things that live");
        due.is("none", Scene.after("30n f").count(1), 0);
        due.is("30", Scene.after("30n").count(1), 30);
        sentences.test(part, "2: things that are pinned");
        due.is("none", Scene.after("2n p0 o0").count(2), 0);
        due.is("the first and the last", Scene.after("30n p0 p29").count(2), 2);
        sentences.test(part, "3: things of the age 0");
        due.is("30", Scene.after("30n").count(3), 30);
        due.is("one of three", Scene.after(Scene.EACH_AGE).count(3), 1);
        due.is("none", Scene.after("n p0 w0").count(3), 0);
        sentences.test(part, "4: of the age 1");
        due.is("four of five", Scene.after(Scene.EACH_AGE + " 2n h0,2 h1,3 s2,0,4 s2,1,1 w0").count(4), 4);
        due.is("none", Scene.after("n p0 w0 w1").count(4), 0);
        sentences.test(part, "5: of the age 2");
        due.is("all of 8", Scene.after(Scene.warm(8)).count(5), 8);
        due.is("none", Scene.after("n p0 w0").count(5), 0);
        sentences.test(part, "6: free houses");
        due.is("all", new WarmHouses().count(6), 8);
        due.is("none", Scene.after(Scene.warm(8)).count(6), 0);
        due.is("one", Scene.after(Scene.warm(7)).count(6), 1);
        sentences.test(part, "7: noted strings");
        due.is("none", Scene.after("2n s0,0,1 s0,1,0").count(7), 0);
        due.is("three of one thing", Scene.after("n h0,0 w0 n s0,0,1 s0,1,1 s0,2,1").count(7), 3);
        sentences.test(part, "10: things that are gone");
        due.is("none", Scene.after("30n").count(10), 0);
        due.is("by a winter and a full turn", Scene.after("2n p1 w0 3n f").count(10), 4);
        due.is("all of 30", Scene.after("30n w1").count(10), 30);
    }

    private static void countOthers() {
        String part = "Promise 19: count";
        sentences.test(part, "Returns a number.");
        due.is("of free houses", new WarmHouses().count(6), 8);
        sentences.test(part, "8: winters so far");
        due.is("of both ages, and without things", Scene.after("w0 w1 w0").count(8), 3);
        due.is("full turns are none", Scene.after("f f").count(8), 0);
        due.is("one was undone", Scene.after("w0 w1 ^").count(8), 1);
        WarmHouses x = Scene.after(Scene.NO_ROOM);
        x.winter(0);
        x.winter(2);
        x.survivors(0, 3);
        due.is("those that did not come are none", x.count(8), 14);
        sentences.test(part, "9: full turns so far");
        due.is("also without things", Scene.after("f f").count(9), 2);
        due.is("winters are none", Scene.after("w0 w1").count(9), 0);
        due.is("one was undone", Scene.after("f f ^").count(9), 1);
        sentences.test(part, "11: moves so far");
        due.is("three things, two winters", Scene.after("3n h0,0 h1,1 h2,2 w0 w1").count(11), 6);
        due.is("those that are pinned do not move", Scene.after("3n p0 p1 h2,2 w0 w1").count(11), 2);
        due.is("also those of a thing that is gone", Scene.after("n h0,0 w0 l0 f").count(11), 1);
        due.is("not those of a winter that was undone", Scene.after("n h0,0 w0 w1 ^").count(11), 1);
        due.is("not those of a winter that did not come", x.count(11), 0);
        sentences.test(part, "12: states in the history");
        for (int changes = 0; changes < 7; changes++) {
            due.is(changes + " changes", Scene.after(changes + "f").count(12), Math.min(4, changes));
        }
        sentences.test(part, "13: the length of the text");
        due.is("empty", new WarmHouses().count(13), 0);
        due.is("60", Scene.after("'" + "n;".repeat(30) + "'").count(13), 60);

        sentences.test(part, "Returns the number");
        due.is("0 of a new object", new WarmHouses().count(0), 0);

        sentences.test(part, "INVALID_ARGUMENT if what is out of range");
        refuses("2n", "count(.)", WarmHouses::count, -1, 14, 15, 32, MIN, MAX);
    }

    private static void undo() {
        String part = "Promise 20: undo";
        sentences.test(part, "Restores the latest state of the history, which is removed from it.");
        WarmHouses x = Scene.after("n p0 w0 w1");
        x.undo();
        due.is("ahead of the last winter", x.thingOf(0, 2), 1);
        x.undo();
        due.is("ahead of the one before", x.thingOf(0, 2), 0);
        due.is("two states are left", x.count(12), 2);
        Scene.go(x, "o0 ^");
        due.is("what was undone does not come back", x.thingOf(0, 3), 1);
        x.undo();
        due.is("ahead of the pin", x.thingOf(0, 3), 0);

        sentences.test(part, "Returns the number of states that are left in the history");
        x = Scene.after("5n");
        for (int left = 3; left >= 0; left--) {
            due.is("left", x.undo(), left);
        }

        sentences.test(part, "NOT_POSSIBLE if it is empty");
        due.is("behind four steps", x.undo(), NOT_POSSIBLE);
        due.is("again", x.undo(), NOT_POSSIBLE);
        due.is("the first of five things stays", x.count(0), 1);
        due.is("of a new object", new WarmHouses().undo(), NOT_POSSIBLE);
        x = Scene.after("'n;'");
        due.is("of an object with a text alone", x.undo(), NOT_POSSIBLE);
        due.is("which stays", x.count(13), 2);
    }

    private static void type() {
        String part = "Promise 21: type";
        sentences.test(part, "Appends a character to the text.");
        WarmHouses x = Scene.after("'n'");
        due.is("fault(1) of n", x.fault(1), 1);
        x.type(';');
        due.is("fault(1) of n;", x.fault(1), NOT_FOUND);

        sentences.test(part, "`character`: 32 to 126");
        refuses("n 'n;'", "type(.)", WarmHouses::type, -1, 0, 31, 127, 128, 256 + 'n', 65536 + 'n', -256 + 'n', MIN, MAX);
        x = new WarmHouses();
        for (int character = 32; character <= 126; character++) {
            due.is("type(" + character + ")", x.type(character), 1);
            x.clearText();
        }

        sentences.test(part, "Returns the length of the text");
        for (int i = 1; i <= 60; i++) {
            due.is("character " + i, x.type(i % 2 == 0 ? ';' : 'n'), i);
        }

        sentences.test(part, "LIMIT_REACHED if it has 60 characters");
        due.is("character 61", x.type('n'), LIMIT);
        due.is("it stays at 60", x.count(13), 60);
        due.is("none of its orders changed", x.play(), 30);

        sentences.test(part, "INVALID_ARGUMENT if character is out of range");
        due.is("type(31) with 60 characters", x.type(31), INVALID);
        due.is("type(127) with 60 characters", x.type(127), INVALID);
        x.clearText();
        due.is("a text that was emptied has room", x.type(' '), 1);
    }

    private static void clearText() {
        String part = "Promise 22: clearText";
        sentences.test(part, "Empties the text.");
        WarmHouses x = Scene.after("'n;x'");
        x.clearText();
        due.is("its length", x.count(13), 0);
        due.is("its fault", x.fault(0), NOT_FOUND);
        due.is("its orders", x.play(), 0);

        sentences.test(part, "Returns the length it had.");
        due.is("of an empty one", x.clearText(), 0);
        due.is("of one character", Scene.after("'x'").clearText(), 1);
        due.is("of 60 characters", Scene.after("'" + "n;".repeat(30) + "'").clearText(), 60);
    }

    private static void fault() {
        String part = "Promise 23: fault";
        sentences.test(part, "Tells about the fault of the text.");
        WarmHouses x = Scene.after("2n h0,1 'n;l0;l0;x'");
        due.is("fault(0)", x.fault(0), 5);
        due.is("fault(1)", x.fault(1), 3);
        due.is("nothing was done", x.count(0), 2);
        due.is("nothing was let go", x.handOf(0), 1);

        sentences.test(part, "`what`: 0: its position");
        due.is("the first character", Scene.after("'x'").fault(0), 0);
        due.is("the thirtieth order", Scene.after("'" + "f;".repeat(29) + "ff'").fault(0), 58);
        due.is("the last character", Scene.after("'" + "w00;" + "w0;" + "f;".repeat(26) + "f'").fault(0), 59);
        sentences.test(part, "1: its reason");
        due.is("its form", Scene.after("'x'").fault(1), 1);
        due.is("no such thing", Scene.after("'p0;'").fault(1), 2);
        due.is("not possible", Scene.after("'l0;'").fault(1), 3);

        sentences.test(part, "Returns that");
        due.is("position 0 is told", Scene.after("';'").fault(0), 0);

        sentences.test(part, "INVALID_ARGUMENT if what is out of range");
        refuses("n 'n;x'", "fault(.)", WarmHouses::fault, -1, 2, 3, 32, MIN, MAX);
        refuses("n 'n;'", "fault(.) of none", WarmHouses::fault, -1, 2, MIN, MAX);

        sentences.test(part, "NOT_FOUND if the text has no fault (also if it is empty)");
        due.is("fault(0) of an empty one", new WarmHouses().fault(0), NOT_FOUND);
        due.is("fault(1) of an empty one", new WarmHouses().fault(1), NOT_FOUND);
        due.is("fault(0) of one without", Scene.after("'n;'").fault(0), NOT_FOUND);
        due.is("fault(1) of one without", Scene.after("'n;'").fault(1), NOT_FOUND);
        x.clearText();
        due.is("fault(0) of one that was emptied", x.fault(0), NOT_FOUND);
    }

    private static void play() {
        String part = "Promise 24: play";
        sentences.test(part, "Does all orders of the text, which stays.");
        WarmHouses x = Scene.after("'n;n;h3,1;s1,2,0;p0;w0;u1,2;l3;f;'");
        due.is("play()", x.play(), 9);
        due.is("which lives", x.needed(0), set(0));
        due.is("where", x.thingOf(0, 1), 0);
        due.is("of which age", x.thingOf(0, 2), 1);
        due.is("the text", x.count(13), 32);
        x = Scene.after("'" + "n;".repeat(15) + "'");
        due.is("again", x.play() + x.play(), 30);
        due.is("thirty things", x.count(0), 30);
        due.is("not a third time", x.play(), NOT_POSSIBLE);

        sentences.test(part, "They are one change, also if there are none.");
        due.is("two states", x.count(12), 2);
        x.undo();
        due.is("one step back", x.count(0), 15);
        x = new WarmHouses();
        x.play();
        due.is("none", x.count(12), 1);
        x = Scene.after("4n");
        x.play();
        Scene.go(x, "^ ^ ^ ^");
        due.is("none, with a full history", x.count(0), 1);

        sentences.test(part, "Returns how many there are in it");
        due.is("none", new WarmHouses().play(), 0);
        due.is("one", Scene.after("'f;'").play(), 1);
        due.is("thirty", Scene.after("'" + "f;".repeat(30) + "'").play(), 30);

        sentences.test(part, "NOT_POSSIBLE if it has a fault");
        for (String text : new String[] {"x", "n", ";", "p1;", "l0;", "n;n;n;n;n;l0;", "f;".repeat(29) + "ff"}) {
            x = Scene.after("n");
            Scene.write(x, text);
            due.is("play() of " + text, x.play(), NOT_POSSIBLE);
            due.is("no order was done", x.count(0), 1);
            due.is("no state", x.count(12), 1);
        }
    }
}
