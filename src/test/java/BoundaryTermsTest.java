import java.io.IOException;
import java.nio.file.Path;
import java.util.function.ToIntFunction;
import support.Due;
import support.Sentences;

/** For each sentence of the document's terms: what it asks at its bounds. */
public final class BoundaryTermsTest {
    private static final int INVALID = Due.INVALID;
    private static final int NOT_POSSIBLE = Due.NOT_POSSIBLE;
    private static final int LIMIT = Due.LIMIT;
    private static final int NOT_FOUND = Due.NOT_FOUND;
    private static final int MIN = Integer.MIN_VALUE;
    private static final int MAX = Integer.MAX_VALUE;

    private static final Due due = new Due();
    private static Sentences sentences;

    public static void main(String[] args) throws IOException {
        sentences = new Sentences(due, Path.of("../shared/DOC.md"));
        lifeOfAnObject();
        numbersAndSets();
        houses();
        things();
        strings();
        pinsAndHands();
        room();
        notes();
        needed();
        winterAges();
        winterSurvivors();
        winterChains();
        winterPins();
        winterMoves();
        winterHousesThatCount();
        winterHousesThatEmpty();
        winterEnd();
        winterWithoutRoom();
        fullTurns();
        textLength();
        textOrders();
        textNumbers();
        faultPosition();
        faultReasons();
        changes();
        history();
        severalErrors();
        refusedCalls();
        noSuchThing();
        constants();
        for (String heading : new String[] {"Terms", "Houses and things", "Needed things", "Winters", "Full turns", "Texts",
            "Changes and errors"}) {
            sentences.allTested(heading);
        }
        due.end();
    }

    private static int set(int... numbers) {
        return Due.set(numbers);
    }

    private static int allUpTo(int last) {
        return (1 << last + 1) - 1;
    }

    // ---- what it is

    private static void lifeOfAnObject() {
        sentences.test("What it is", "An object is used for at most 512 calls after it has been made");
        WarmHouses x = new WarmHouses();
        due.is("call 1, thing()", x.thing(), 0);
        due.is("call 2, thing()", x.thing(), 1);
        // Two changes and a step back, again and again: the states go around many times.
        for (int call = 3; call <= 510; call += 4) {
            int thing = call / 4 % 2;
            due.is("call " + call + ", hold(3, " + thing + ")", x.hold(3, thing), 1);
            due.is("call " + (call + 1) + ", hold(3, " + (1 - thing) + ")", x.hold(3, 1 - thing), 1);
            due.is("call " + (call + 2) + ", undo()", x.undo(), 3);
            due.is("call " + (call + 3) + ", handOf(3)", x.handOf(3), thing);
        }
        due.is("call 511, count(12)", x.count(12), 3);
        due.is("call 512, release(3)", x.release(3), 507 / 4 % 2);
    }

    // ---- terms

    private static void numbersAndSets() {
        sentences.test("Terms", "All numbers are whole numbers.");
        due.is("seven things are two houses, not 1.4", Scene.after("7n").count(6), 6);

        sentences.test("Terms", "Sets are told as bits: bit k is for number k.");
        WarmHouses x = Scene.after("30n h0,29 h3,29 s29,0,0 s0,2,29");
        due.is("the empty set", x.thingOf(1, 7), 0);
        due.is("bits 0 and 29", x.needed(0), 1 + (1 << 29));
        due.is("bits 1 to 28", x.needed(1), (1 << 29) - 2);
        due.is("bits 25 to 29", x.houseOf(5, 2), 31 << 25);
        due.is("bit 29", x.thingOf(0, 8), 1 << 29);
        due.is("bits 0 and 3 of hands", x.thingOf(29, 7), 9);
        due.is("all thirty bits", Scene.after("30n").needed(1), (1 << 30) - 1);
    }

    // ---- houses and things

    private static void houses() {
        String part = "Houses and things";
        sentences.test(part, "There are 8 houses, numbered from 0");
        WarmHouses x = Scene.after(Scene.warm(8));
        due.is("the first house", x.houseOf(0, 3), 0);
        due.is("the last house", x.houseOf(7, 3), 7);
        due.is("none behind it", x.houseOf(8, 3), INVALID);
        due.is("none ahead", x.houseOf(-1, 3), INVALID);
        due.is("no ninth house", x.thing(), NOT_POSSIBLE);

        sentences.test(part, "with 5 places each");
        x = Scene.after("6n");
        due.is("the fifth thing", x.thingOf(4, 1), 4);
        due.is("the sixth thing", x.thingOf(5, 1), 10);
        due.is("place 4", x.houseOf(0, 7), 4);
        due.is("no place 5", x.houseOf(0, 8), INVALID);

        sentences.test(part, "a house is free, or it has an age: 0, 1 or 2");
        x = new WarmHouses();
        due.is("free", x.houseOf(0, 0), NOT_FOUND);
        Scene.go(x, "n p0");
        due.is("age 0", x.houseOf(0, 0), 0);
        Scene.go(x, "w1");
        due.is("age 1", x.houseOf(0, 0), 1);
        Scene.go(x, "w1");
        due.is("age 2", x.houseOf(0, 0), 2);
        Scene.go(x, "w1 w0");
        due.is("no age 3", x.houseOf(0, 0), 2);
        Scene.go(x, "o0 f");
        due.is("free again", x.houseOf(0, 0), NOT_FOUND);
    }

    private static void things() {
        String part = "Houses and things";
        sentences.test(part, "There are at most 30 things in all");
        due.is("the thirtieth", Scene.after("29n").thing(), 29);
        due.is("no other", Scene.after("30n").thing(), LIMIT);
        due.is("those that are gone count", Scene.after("29n f n f").thing(), LIMIT);
        due.is("one whose coming was undone does not", Scene.after("30n ^").thing(), 29);

        sentences.test(part, "numbered from 0 in the order in which they came");
        due.is("the first", new WarmHouses().thing(), 0);
        due.is("the second", Scene.after("n").thing(), 1);
        due.is("the number of one that is gone is not given again", Scene.after("3n f").thing(), 3);

        sentences.test(part, "a thing lives in a place of a house, or is gone for good");
        WarmHouses x = Scene.after("n");
        due.is("it lives", x.thingOf(0, 0), 1);
        due.is("at its place", x.houseOf(0, 3), 0);
        Scene.go(x, "f 5n w0");
        due.is("it is gone", x.thingOf(0, 0), 0);
        due.is("no place is its own", x.thingOf(0, 1), NOT_FOUND);
        due.is("no hand brings it back", x.hold(0, 0), INVALID);

        sentences.test(part, "The age of a thing is that of its house.");
        x = Scene.after(Scene.EACH_AGE);
        for (int thing = 0; thing < 3; thing++) {
            due.is("thingOf(" + thing + ", 2)", x.thingOf(thing, 2), 2 - thing);
            due.is("of its house", x.houseOf(x.thingOf(thing, 1) / 10, 0), 2 - thing);
        }
    }

    private static void strings() {
        String part = "Houses and things";
        sentences.test(part, "A thing has 3 strings, numbered from 0");
        WarmHouses x = Scene.after("3n s0,2,0 s1,0,1 s1,2,1 s2,0,2");
        due.is("no string 3", x.tie(1, 3, 0), INVALID);
        due.is("no string -1", x.tie(1, -1, 0), INVALID);
        due.is("the first one of the next thing stays", x.thingOf(2, 4), 2);
        due.is("the last one of the thing ahead stays", x.thingOf(0, 6), 0);
        due.is("string 0", x.loosen(1, 0), 1);
        due.is("string 2", x.loosen(1, 2), 1);

        sentences.test(part, "each tied to a thing (perhaps itself) or loose");
        x = Scene.after("30n");
        due.is("loose", x.thingOf(29, 6), NOT_FOUND);
        due.is("tie(29, 2, 29)", x.tie(29, 2, 29), 0);
        due.is("tied to itself", x.thingOf(29, 6), 29);
        due.is("the others are loose", x.thingOf(29, 5), NOT_FOUND);
        due.is("of itself", x.thingOf(29, 8), set(29));
        due.is("three strings to one thing", Scene.after("n s0,0,0 s0,1,0 s0,2,0").thingOf(0, 8), set(0));
    }

    private static void pinsAndHands() {
        String part = "Houses and things";
        sentences.test(part, "A thing can be pinned.");
        WarmHouses x = Scene.after("30n");
        due.is("none is", x.count(2), 0);
        for (int i = 0; i < 30; i++) {
            due.is("pin(" + i + ")", x.pin(i), i + 1);
        }
        due.is("all are", x.count(2), 30);

        sentences.test(part, "There are 4 hands, numbered from 0");
        x = Scene.after("n");
        due.is("hand 0", x.hold(0, 0), 1);
        due.is("hand 3", x.hold(3, 0), 2);
        due.is("no hand 4", x.hold(4, 0), INVALID);
        due.is("no hand -1", x.hold(-1, 0), INVALID);

        sentences.test(part, "each of which holds a thing or none");
        due.is("a thing", x.handOf(3), 0);
        due.is("none", x.handOf(2), NOT_FOUND);
        due.is("not two", Scene.after("2n h0,0 h0,1").needed(0), set(1));
    }

    private static void room() {
        String part = "Houses and things";
        sentences.test(part, "the house of this age with the lowest number that has an empty place");
        WarmHouses x = Scene.after("15n h0,0 h1,5 h2,10 f n");
        due.is("the lowest of three with room", x.thingOf(15, 1), 1);
        x = Scene.after("10n h0,0 h1,5 s0,0,1 s0,1,2 s0,2,3 s1,0,4 f n");
        due.is("the lowest one is full", x.thingOf(10, 1), 11);
        x = Scene.after("6n h0,5 f n");
        due.is("not the free house with a lower number", x.thingOf(6, 1), 11);
        x = Scene.after("n h0,0 w0 n h1,1 w1 n");
        due.is("not a house of another age, which has room too", x.thingOf(2, 1), 0);

        sentences.test(part, "if there is none, the free house with the lowest number, which has this age then");
        due.is("all are free", Scene.after("n").thingOf(0, 1), 0);
        due.is("the house of this age is full", Scene.after("6n").thingOf(5, 1), 10);
        x = Scene.after("n p0 w1 n p1 w0 6n");
        due.is("behind one that is full", x.thingOf(7, 1), 30);
        x = Scene.after("n h0,0 w0");
        due.is("free", x.houseOf(0, 0), NOT_FOUND);
        Scene.go(x, "n");
        due.is("lower than a house of the age 1", x.thingOf(1, 1), 0);
        due.is("of the age 0 then", x.houseOf(0, 0), 0);
        x = Scene.after(Scene.warm(7) + "n");
        due.is("the last house", x.thingOf(7, 1), 70);
        due.is("of the age 0", x.houseOf(7, 0), 0);

        sentences.test(part, "To find room of an age means");
        due.is("no house of the age, none free", Scene.after(Scene.warm(8)).thing(), NOT_POSSIBLE);

        sentences.test(part, "in it the lowest empty place");
        x = Scene.after("5n h0,0 h1,2 h2,4 f 3n");
        due.is("between two", x.thingOf(5, 1), 1);
        due.is("between two others", x.thingOf(6, 1), 3);
        due.is("none is left", x.thingOf(7, 1), 10);
        due.is("the first place", Scene.after("5n h0,4 f n").thingOf(5, 1), 0);
        due.is("the last place", Scene.after("4n n").thingOf(4, 1), 4);
    }

    private static void notes() {
        sentences.test("Houses and things", "A string is noted if it goes from a thing to one of a lower age.");
        WarmHouses x = Scene.after(Scene.EACH_AGE + " n");
        due.is("from 2 to 1", x.tie(0, 0, 1), 1);
        due.is("from 2 to 0", x.tie(0, 1, 2), 1);
        due.is("from 1 to 0", x.tie(1, 2, 3), 1);
        due.is("from 0 to 0", x.tie(2, 0, 3), 0);
        due.is("from 0 to 1", x.tie(2, 1, 1), 0);
        due.is("from 1 to 2", x.tie(1, 0, 0), 0);
        due.is("from 2 to itself", x.tie(0, 2, 0), 0);
        due.is("how many", x.count(7), 3);
        Scene.go(x, "h0,2 w0");
        due.is("from 2 to what is 1 still or now, not from 1 to what is 1 now", x.count(7), 2);
        Scene.go(x, "u0,0");
        due.is("not a loose one", x.count(7), 1);
    }

    // ---- needed things

    private static void needed() {
        String part = "Needed things";
        sentences.test(part, "A thing is reached from another one if one of its strings is tied to it");
        for (int string = 0; string < 3; string++) {
            WarmHouses x = Scene.after("30n h0,29 s29," + string + ",0");
            due.is("by string " + string, x.needed(0), set(0, 29));
        }
        due.is("not against the string", Scene.after("2n h0,0 s1,0,0").needed(0), set(0));
        due.is("not by a loose one", Scene.after("2n h0,0 s0,1,1 u0,1").needed(0), set(0));

        sentences.test(part, "or to a thing from which it is reached");
        StringBuilder chain = new StringBuilder("30n h0,29");
        for (int i = 29; i > 0; i--) {
            chain.append(" s").append(i).append(',').append(i % 3).append(',').append(i - 1);
        }
        due.is("by 29 strings", Scene.after(chain.toString()).needed(0), allUpTo(29));
        due.is("a ring of three ends", Scene.after("4n h0,0 s0,0,1 s1,0,2 s2,0,0").needed(0), set(0, 1, 2));
        due.is("a ring that none is held of", Scene.after("3n h0,0 s1,0,2 s2,0,1").needed(1), set(1, 2));

        sentences.test(part, "A thing is needed if a hand holds it");
        due.is("the first hand, the last thing", Scene.after("30n h0,29").needed(0), set(29));
        due.is("the last hand, the first thing", Scene.after("30n h3,0").needed(0), set(0));
        due.is("no more when it let go", Scene.after("2n h3,0 l3").needed(0), 0);

        sentences.test(part, "it is pinned");
        due.is("one", Scene.after("2n p1").needed(0), set(1));
        due.is("no more without its pin", Scene.after("2n p1 o1").needed(0), 0);

        sentences.test(part, "or it is reached from a thing that a hand holds or that is pinned");
        due.is("from one that is held", Scene.after("4n h0,0 s0,0,2").needed(0), set(0, 2));
        due.is("from one that is pinned", Scene.after("4n p1 s1,0,3").needed(0), set(1, 3));
        due.is("not from one that is forgotten", Scene.after("4n p1 s0,0,2 s2,0,3").needed(0), set(1));

        sentences.test(part, "A thing that lives and is not needed is forgotten.");
        due.is("one of two", Scene.after("2n p1").needed(1), set(0));
        due.is("one that is gone is not", Scene.after("2n p1 f").needed(1), 0);
        due.is("one to come is not", new WarmHouses().needed(1), 0);
    }

    // ---- winters

    private static void winterAges() {
        String part = "Winters";
        sentences.test(part, "A winter has an age, 0 or 1.");
        WarmHouses x = Scene.after("n");
        for (int age : new int[] {-1, 2, 3, MIN, MAX}) {
            due.is("winter(" + age + ")", x.winter(age), INVALID);
        }
        due.is("winter(0)", x.winter(0), 1);
        due.is("winter(1)", x.winter(1), 0);

        sentences.test(part, "It concerns all things of this age or a lower one.");
        x = Scene.after(Scene.EACH_AGE);
        due.is("winter(0): age 0", x.winter(0), 1);
        due.is("age 1 lives", x.thingOf(1, 2), 1);
        due.is("age 2 lives", x.thingOf(0, 2), 2);
        x = Scene.after(Scene.EACH_AGE);
        due.is("winter(1): ages 0 and 1", x.winter(1), 2);
        due.is("age 2 lives", x.thingOf(0, 2), 2);
        x = Scene.after(Scene.EACH_AGE + " h0,0 h1,1 h2,2 w0");
        due.is("winter(0) leaves age 1 where it is", x.thingOf(1, 9), 1);
        Scene.go(x, "w1 w1");
        due.is("winter(1) leaves age 2 where it is", x.thingOf(0, 9), 2);
    }

    private static void winterSurvivors() {
        String part = "Winters";
        sentences.test(part, "those that a hand holds");
        due.is("by the first and the last hand", Scene.after("4n h0,1 h3,2").survivors(0, 0), set(1, 2));
        due.is("none", Scene.after("4n").survivors(0, 0), 0);
        due.is("of age 1", Scene.after("n h0,0 w0").survivors(1, 0), set(0));
        due.is("not one that it does not concern", Scene.after("n h0,0 w0").survivors(0, 0), 0);

        sentences.test(part, "those that are pinned");
        due.is("the first and the last", Scene.after("30n p0 p29").survivors(0, 0), set(0, 29));
        due.is("not one that it does not concern", Scene.after("n p0 w1 w1").survivors(1, 0), 0);

        sentences.test(part, "those to which a noted string of a thing that it does not concern (needed or not) is tied");
        due.is("needed", Scene.after("n h0,0 w0 2n s0,2,1").survivors(0, 0), set(1));
        due.is("forgotten", Scene.after("n h0,0 w0 2n s0,2,1 l0").survivors(0, 0), set(1));
        due.is("from 2 to 0", Scene.after(Scene.EACH_AGE + " s0,1,2").survivors(0, 0), set(2));
        due.is("from 2 to 1 and 0", Scene.after(Scene.EACH_AGE + " s0,1,2 s0,0,1").survivors(1, 0), set(1, 2));
        due.is("of one that it concerns", Scene.after(Scene.EACH_AGE + " s1,0,2").survivors(1, 0), 0);
        due.is("a string that is not noted", Scene.after("2n s0,0,1").survivors(0, 0), 0);
    }

    private static void winterChains() {
        String part = "Winters";
        sentences.test(part, "those that are reached from a survivor by strings of things that it concerns alone");
        WarmHouses x = Scene.after("6n h0,0 s0,0,1 s1,1,2 s2,2,3 s3,0,1 s4,0,5");
        due.is("from one that is held", x.survivors(0, 0), set(0, 1, 2, 3));
        due.is("from one that is pinned", Scene.after("3n p0 s0,0,1 s1,0,2").survivors(0, 0), set(0, 1, 2));
        x = Scene.after("n h0,0 w0 4n s0,0,1 s1,0,2 s4,0,3 l0");
        due.is("from one of a noted string", x.survivors(0, 0), set(1, 2));
        x = Scene.after("n h0,0 w0 2n s1,0,0 h0,1");
        due.is("an older one is none of them", x.survivors(0, 0), set(1));
        x = Scene.after(Scene.EACH_AGE + " h0,1 s1,0,2");
        due.is("from age 1 to age 0", x.survivors(1, 0), set(1, 2));
    }

    private static void winterPins() {
        String part = "Winters";
        sentences.test(part, "The survivors, by their numbers, become older by 1");
        WarmHouses x = Scene.after("5n h0,4 h1,2 h2,3 w0");
        due.is("the lowest number first", x.houseOf(1, 3), 2);
        due.is("the next one", x.houseOf(1, 4), 3);
        due.is("the highest number last", x.houseOf(1, 5), 4);
        due.is("from 0 to 1", x.thingOf(4, 2), 1);
        Scene.go(x, "w1");
        due.is("from 1 to 2", x.thingOf(4, 2), 2);

        sentences.test(part, "a pinned one stays in its place, and its house has the greater age then "
            + "(once, also if there are more pinned ones in it)");
        x = Scene.after("5n p0 p1 p2 p3 p4");
        due.is("winter(0)", x.winter(0), 0);
        due.is("five in a house", x.houseOf(0, 0), 1);
        due.is("the first stays", x.thingOf(0, 1), 0);
        due.is("the last stays", x.thingOf(4, 1), 4);
        due.is("no move", x.count(11), 0);
        x = Scene.after("10n p9 w0");
        due.is("one in a house", x.houseOf(1, 0), 1);
        due.is("in its last place", x.thingOf(9, 1), 14);

        sentences.test(part, "All pinned ones come first");
        x = Scene.after("6n p5 h0,0 w0");
        due.is("a thing with a lower number finds the house of a pinned one", x.thingOf(0, 1), 11);
        x = Scene.after("n p0 w0 n h0,1 n p2 w1");
        due.is("its own house, not one that was of the age 1", x.thingOf(1, 1), 12);

        sentences.test(part, "a house whose age has become greater for one is of this age for all who look for room");
        x = Scene.after("n p0 w0 n h0,1 w1");
        due.is("it is no room of its age before", x.thingOf(1, 1), 20);
        due.is("houseOf(0, 0)", x.houseOf(0, 0), 2);
        x = Scene.after("2n p0 h0,1 w0 w1");
        due.is("from 1 to 2 in it", x.thingOf(1, 1), 1);
    }

    private static void winterMoves() {
        String part = "Winters";
        sentences.test(part, "each other one moves to room of the age that is greater by 1 than its own (before the winter)");
        WarmHouses x = Scene.after("2n p0 h0,1 w0");
        due.is("to 1, though its house was 1 before it moved", x.thingOf(1, 2), 1);
        x = Scene.after(Scene.EACH_AGE + " h0,1 h1,2 w1");
        due.is("from 1 to 2", x.thingOf(1, 2), 2);
        due.is("to the house of the age 2", x.thingOf(1, 1), 1);
        due.is("from 0 to 1", x.thingOf(2, 2), 1);
        due.is("to the house of the age 1", x.thingOf(2, 1), 20);

        sentences.test(part, "To find room, houses as they are just then are looked at");
        x = Scene.after("3n p0 h0,1 h1,2 w0");
        due.is("the one with the lower number", x.thingOf(1, 1), 3);
        due.is("to the place that it left", x.thingOf(2, 1), 1);
        x = Scene.after("6n h0,0 h1,1 h2,2 h3,3 s3,0,4 s4,0,5 w0");
        due.is("the fifth fills the house", x.thingOf(4, 1), 24);
        due.is("the sixth needs another one", x.thingOf(5, 1), 30);

        sentences.test(part, "the place of the thing itself is not empty yet");
        x = Scene.after("2n p0 h0,1 w0");
        due.is("another place in its house", x.thingOf(1, 1), 2);
        x = Scene.after("5n p0 p1 p2 p3 h0,4 w0");
        due.is("its place is the only one that is not of a pinned thing", x.thingOf(4, 1), 10);

        sentences.test(part, "a place in its own house can do, if this has the age by then");
        x = Scene.after("4n p0 h0,3 w0");
        due.is("it has: the last place", x.thingOf(3, 1), 4);
        due.is("it is a move", x.thingOf(3, 9), 1);
        x = Scene.after("2n h0,1 w0");
        due.is("it has not", x.thingOf(1, 1), 10);
    }

    private static void winterHousesThatCount() {
        String part = "Winters";
        sentences.test(part, "those with things that the winter concerns, and that have not moved yet, or will be gone, "
            + "count with these");
        WarmHouses x = Scene.after("4n p0 h0,1 h1,3 w0");
        due.is("behind 2 that will be gone and 3 that moves later", x.thingOf(1, 1), 4);
        due.is("to the place of 1", x.thingOf(3, 1), 1);
        x = Scene.after("n h0,0 w0 l0 n h0,1 w1");
        due.is("behind the only thing of a house, which will be gone", x.thingOf(1, 1), 11);
        due.is("the house keeps its age", x.houseOf(1, 0), 1);
        x = Scene.after("5n p0 h0,1 w0");
        due.is("a house is full of those that will be gone", x.thingOf(1, 1), 10);
        x = Scene.after(Scene.warm(6) + "6n h0,6");
        due.is("house 7, with one that will be gone, is not free", x.winter(0), NOT_POSSIBLE);
        x = Scene.after(Scene.warm(7) + "5n p7 h0,11");
        due.is("the last house is full of those that will be gone", x.winter(0), NOT_POSSIBLE);
        x = Scene.after(Scene.warm(7) + "4n p7 h0,10");
        due.is("its last place is empty", x.winter(0), 2);
    }

    /** House 5 is of the age 1 and has one empty place; 9 is alone in house 6, 14 in house 7, both of the age 0 and held. */
    private static final String ONE_PLACE = Scene.warm(5) + "4n p5 p6 p7 p8 w0 6n h0,9 h1,14 f";

    private static void winterHousesThatEmpty() {
        String part = "Winters";
        sentences.test(part, "a house that has become empty by moves keeps its age until the winter is over");
        WarmHouses x = Scene.after("n h0,0 w0 n h1,1 w1");
        due.is("the older one leaves house 1", x.thingOf(0, 1), 20);
        due.is("which is room of the age 1", x.thingOf(1, 1), 10);
        x = Scene.after(ONE_PLACE);
        due.is("9 can move, 14 can't: house 6 is not free", x.winter(0), NOT_POSSIBLE);
        due.is("survivors(0, 3)", x.survivors(0, 3), 0);
        Scene.go(x, "l1");
        due.is("9 alone can", x.winter(0), 1);
        due.is("to the last place", x.thingOf(9, 1), 54);
        due.is("then house 6 is free", x.houseOf(6, 0), NOT_FOUND);

        sentences.test(part, "(if a thing has moved in, also behind it)");
        x = Scene.after("n h0,0 w0 n h1,1 w1");
        due.is("a thing has moved into house 1", x.houseOf(1, 0), 1);
        due.is("none into house 0", x.houseOf(0, 0), NOT_FOUND);
        x = Scene.after("n h0,0 w0 n w1");
        due.is("no survivor for house 1", x.houseOf(1, 0), NOT_FOUND);
    }

    private static void winterEnd() {
        String part = "Winters";
        sentences.test(part, "Then all others that the winter concerns are gone");
        WarmHouses x = Scene.after("30n h0,7");
        due.is("29 of 30", x.winter(0), 29);
        due.is("one lives", x.houseOf(6, 2), set(7));
        due.is("how many live", x.count(1), 1);
        due.is("also those that are tied to one another", Scene.after("3n s0,0,1 s1,0,0 s2,0,2 w0").count(1), 0);
        due.is("also those that are tied to survivors", Scene.after("3n h0,0 s1,0,0 s2,0,0 w0").count(1), 1);
        x = Scene.after(Scene.EACH_AGE + " h0,2");
        due.is("one that it does not concern is not gone", x.winter(0), 0);
        due.is("forgotten as it is", x.thingOf(1, 0), 1);

        sentences.test(part, "their strings are loose, and their places are empty");
        x = Scene.after("30n h0,0 s29,0,0 s29,1,29 s29,2,28 w0");
        for (int what = 4; what < 7; what++) {
            due.is("thingOf(29, " + what + ")", x.thingOf(29, what), NOT_FOUND);
        }
        due.is("none is tied to one that lives", x.thingOf(0, 8), 0);
        due.is("nor to one that is gone", x.thingOf(28, 8), 0);
        due.is("houseOf(5, 7)", x.houseOf(5, 7), NOT_FOUND);
        due.is("the place is taken again", Scene.after("2n p1 w0 n h0,2 w0").thingOf(2, 1), 0);

        sentences.test(part, "A house without things is free.");
        due.is("all houses", Scene.after("30n w0").count(6), 8);
        due.is("the last house", Scene.after(Scene.warm(7) + "5n w0").houseOf(7, 0), NOT_FOUND);
        due.is("one thing is enough", Scene.after("30n p29 w0").houseOf(5, 0), 1);
        due.is("the others are free", Scene.after("30n p29 w0").count(6), 7);
    }

    private static void winterWithoutRoom() {
        sentences.test("Winters", "If there is no room for a survivor, there is no winter: nothing changes.");
        changesNothing(Scene.NO_ROOM, "winter(0)", x -> x.winter(0), NOT_POSSIBLE);
        changesNothing(Scene.NO_ROOM, "winter(1)", x -> x.winter(1), NOT_POSSIBLE);
        changesNothing(ONE_PLACE, "winter(0) with room for one of two", x -> x.winter(0), NOT_POSSIBLE);
        // Six houses are of the age 0: the two free ones have room for ten survivors, not for eleven.
        StringBuilder ten = new StringBuilder("30n h0,0");
        for (int i = 0; i < 9; i++) {
            ten.append(" s").append(i).append(",0,").append(i + 1);
        }
        due.is("ten", Scene.after(ten.toString()).winter(0), 20);
        changesNothing(ten + " h1,29", "winter(0) of eleven", x -> x.winter(0), NOT_POSSIBLE);
        due.is("eleven, but one is pinned", Scene.after(ten + " h1,29 p29").winter(0), 19);
        // Eight houses of the age 1, no thing is pinned, 3 is held: no room of the age 2.
        StringBuilder ones = new StringBuilder();
        for (int i = 0; i < 8; i++) {
            ones.append("n p").append(i).append(" w0 ");
        }
        ones.append("o0 o1 o2 o3 o4 o5 o6 o7 h0,3");
        changesNothing(ones.toString(), "winter(1) of the age 1", x -> x.winter(1), NOT_POSSIBLE);
        due.is("winter(0) does not concern it", Scene.after(ones.toString()).winter(0), 0);
        due.is("with a house that becomes 2 for a pinned one", Scene.after(ones + " p5 w1").thingOf(3, 1), 51);
        due.is("without survivors no room is needed", Scene.after(Scene.NO_ROOM + " l0").winter(0), 2);
        due.is("nor for pinned ones", Scene.after(Scene.NO_ROOM + " p8").winter(0), 1);
    }

    // ---- full turns

    private static void fullTurns() {
        String part = "Full turns";
        sentences.test(part, "all things that are forgotten are gone");
        due.is("none came", new WarmHouses().full(), 0);
        due.is("all of 30", Scene.after("30n").full(), 30);
        due.is("also those that are tied to one another", Scene.after("3n s0,0,1 s1,0,0 s2,0,2").full(), 3);
        due.is("also those that are tied to needed ones", Scene.after("3n h0,0 s1,0,0 s2,0,0").full(), 2);
        due.is("none of 5", Scene.after("5n h0,0 s0,0,1 s1,0,2 p3 s3,2,4").full(), 0);
        due.is("of all ages", Scene.after(Scene.EACH_AGE).full(), 3);
        due.is("a noted string is no need", Scene.after(Scene.EACH_AGE + " s0,0,1 s1,0,2 h0,1").full(), 1);
        WarmHouses x = Scene.after("3n h0,0 s2,0,0 s2,2,1 f");
        due.is("the strings of one that is gone are loose", x.thingOf(2, 4), NOT_FOUND);
        due.is("none of them is tied to one that lives", x.thingOf(0, 8), 0);

        sentences.test(part, "Nothing moves.");
        x = Scene.after("30n p29 h0,13 f");
        due.is("of a house", x.thingOf(29, 1), 54);
        due.is("of another one", x.thingOf(13, 1), 23);
        due.is("no move", x.count(11), 0);
        due.is("no age", x.thingOf(13, 2), 0);

        sentences.test(part, "A house without things is free.");
        due.is("six houses", Scene.after("30n f").count(6), 8);
        due.is("the last house", Scene.after(Scene.warm(7) + "5n f").houseOf(7, 0), NOT_FOUND);
        due.is("one thing is enough", Scene.after("30n h0,29 f").houseOf(5, 0), 0);
        due.is("of the age 2", Scene.after(Scene.EACH_AGE + " f").houseOf(0, 0), NOT_FOUND);
    }

    // ---- texts

    private static void textLength() {
        String part = "Texts";
        sentences.test(part, "There is a text of at most 60 characters");
        WarmHouses x = new WarmHouses();
        for (int i = 1; i <= 60; i++) {
            due.is("character " + i, x.type(i % 2 == 0 ? ';' : 'n'), i);
        }
        due.is("character 61", x.type('n'), LIMIT);
        due.is("orders in 60 characters", x.play(), 30);
        due.is("the last one was done", x.count(0), 30);
        x = Scene.after("'" + "n;".repeat(30) + "'");
        Scene.write(x, "n;".repeat(29) + "n");
        due.is("what was there before is not there behind 59", x.fault(0), 58);

        sentences.test(part, "initially empty");
        x = new WarmHouses();
        due.is("its length", x.count(13), 0);
        due.is("its orders", x.play(), 0);
        due.is("clearText()", x.clearText(), 0);
    }

    private static void textOrders() {
        String part = "Texts";
        sentences.test(part, "orders, each followed by \";\"");
        faults("n", "n", 0, 1);
        faults("n", "n;n", 2, 1);
        faults("n", ";", 0, 1);
        faults("n", "n;;", 2, 1);
        faults("n", "n,", 0, 1);
        faults("n", "n;", NOT_FOUND, NOT_FOUND);

        sentences.test(part, "\"n\" (a new thing)");
        does("", "n;", "n");
        sentences.test(part, "\"h\" a hand, \",\", a thing (it holds it)");
        does("30n", "h3,29;", "h3,29");
        does("30n", "h0,0;", "h0,0");
        sentences.test(part, "\"l\" a hand (it lets go)");
        does("n h3,0 h0,0", "l3;", "l3");
        sentences.test(part, "\"s\" a thing, \",\", a string, \",\", a thing (it is tied)");
        does("30n", "s29,2,0;", "s29,2,0");
        does("30n", "s0,0,29;", "s0,0,29");
        sentences.test(part, "\"u\" a thing, \",\", a string (it is loosened)");
        does("30n s29,2,0 s29,0,1", "u29,2;", "u29,2");
        sentences.test(part, "\"p\" a thing (it is pinned)");
        does("30n", "p29;", "p29");
        sentences.test(part, "\"w\" an age (a winter)");
        does("2n h0,1", "w0;", "w0");
        does(Scene.EACH_AGE + " h0,1", "w1;", "w1");
        sentences.test(part, "\"f\" (a full turn)");
        does("2n h0,1", "f;", "f");
    }

    /** The text does to a scene what a call does. */
    private static void does(String scene, String text, String call) {
        WarmHouses x = Scene.after(scene + " '" + text + "'");
        due.is(text, x.play(), 1);
        due.same(text, Scene.look(x), Scene.look(Scene.after(scene + " '" + text + "' " + call)));
    }

    private static void faults(String scene, String text, int position, int reason) {
        WarmHouses x = Scene.after(scene);
        Scene.write(x, text);
        due.is("fault(0) of " + text, x.fault(0), position);
        due.is("fault(1) of " + text, x.fault(1), reason);
    }

    private static void textNumbers() {
        String part = "Texts";
        sentences.test(part, "numbers of 1 or 2 digits");
        faults("30n", "p9;p10;p29;", NOT_FOUND, NOT_FOUND);
        for (String text : new String[] {"p;", "p000;", "p010;", "p100;", "w;", "w001;", "l;", "l000;", "h,0;", "h0,;", "h000,0;",
            "h0,000;", "s,0,0;", "s0,,0;", "s0,0,;", "s000,0,0;", "s0,000,0;", "s0,0,000;", "u,0;", "u0,;", "u000,0;", "u0,000;",
            "p-1;", "p+1;", "p/;", "p:;", "p1 ;", "p 1;", "p1.;"}) {
            faults("30n", text, 0, 1);
        }

        sentences.test(part, "0 ahead allowed");
        faults("12n h0,1 s11,2,1", "p00;p01;h00,02;l00;s03,00,04;u11,02;w00;", NOT_FOUND, NOT_FOUND);
        does("12n", "s03,01,09;", "s3,1,9");
        does("12n", "p00;", "p0");
    }

    private static void faultPosition() {
        sentences.test("Texts", "The fault of the text is the position, from 0, of the first character of the first order that "
            + "is not possible");
        faults("n", "l0;n;", 0, 3);
        faults("n", "n;l0;n;", 2, 3);
        faults("n", "n;h0,0;l0;l00;", 10, 3);
        faults("n", "l0;h9,0;x", 0, 3);
        faults("n", "h9,0;l0;x", 0, 2);
        faults("n", "x;h9,0;l0;", 0, 1);
        faults("n", "p0;".repeat(20), 3, 3);
        faults("n", "n;".repeat(29) + "x;", 58, 1);
        faults("n", "n;".repeat(29) + "n;", 58, 3);
        faults("n", "", NOT_FOUND, NOT_FOUND);
    }

    private static void faultReasons() {
        String part = "Texts";
        sentences.test(part, "its reason is 1 if it is not of this form, its \";\" included");
        for (String text : new String[] {"h0,0", "h9,99", "l0", "l0,", "s0,0;", "s0,0,0,0;", "u0;", "u0,0,0;", "p0,0;", "w0,0;",
            "n0;", "f0;", "N;", " n;", "n ;", "x;", "o0;", "0;", ",;", "~;", "h0;0;", "h0.0;", "nn;", "n:"}) {
            faults("n", text, 0, 1);
        }

        sentences.test(part, "2 if there is no such hand, thing that lives, string or age");
        // 0 is gone, 1 lives, 2 did not come.
        for (String text : new String[] {"h4,1;", "h99,1;", "h0,2;", "h0,0;", "h0,30;", "h0,33;", "l4;", "l99;", "s2,0,1;",
            "s0,0,1;", "s1,3,1;", "s1,99,1;", "s1,0,2;", "s1,0,0;", "u2,0;", "u0,0;", "u1,3;", "p2;", "p0;", "p33;", "w2;",
            "w99;"}) {
            faults("2n h0,1 f", text, 0, 2);
        }
        faults(Scene.NO_ROOM, "w2;", 0, 2);

        sentences.test(part, "3 if it is not possible otherwise");
        faults(Scene.warm(8), "n;", 0, 3);
        faults("30n", "n;", 0, 3);
        faults("n", "l3;", 0, 3);
        faults("n", "u0,2;", 0, 3);
        faults("n p0", "p0;", 0, 3);
        faults(Scene.NO_ROOM, "w0;", 0, 3);
        faults(Scene.NO_ROOM, "w1;", 0, 3);
        faults("n", "h0,0;h0,0;s0,0,0;s0,0,0;f;f;w0;w1;", NOT_FOUND, NOT_FOUND);

        sentences.test(part, "when those ahead of it are done");
        faults("", "n;h0,0;", NOT_FOUND, NOT_FOUND);
        faults("", "h0,0;n;", 0, 2);
        faults("n", "f;p0;", 2, 2);
        faults("n", "w0;p0;", 3, 2);
        faults("n", "p0;f;p0;", 5, 3);
        faults("29n", "n;n;", 2, 3);
        faults(Scene.NO_ROOM, "l0;w0;", NOT_FOUND, NOT_FOUND);
        changesNothing("2n 'n;h0,0;f;w0;'", "fault(0)", x -> x.fault(0), NOT_FOUND);
    }

    // ---- changes and errors

    /** Scenes of at most three changes, and a change to be made there. */
    private static final String[][] CHANGES = {{"", "n"}, {"n", "n"}, {"n", "h0,0"}, {"n h0,0", "h0,0"}, {"2n h3,0", "h3,1"},
        {"n h0,0", "l0"}, {"n", "s0,0,0"}, {"n s0,2,0", "s0,2,0"}, {"n s0,1,0", "u0,1"}, {"n", "p0"}, {"n p0", "o0"}, {"", "w0"},
        {"", "w1"}, {"n h0,0 s0,0,0", "w0"}, {"n p0", "w1"}, {"n s0,0,0", "w0"}, {"", "f"}, {"n s0,0,0", "f"}, {"n p0", "f"}};

    private static void changes() {
        sentences.test("Changes and errors", "The changes are the calls of thing, hold, release, tie, loosen, pin, unpin, "
            + "winter, full and play that return no error.");
        for (String[] row : CHANGES) {
            WarmHouses x = Scene.after(row[0]);
            int states = x.count(12);
            Scene.go(x, row[1]);
            due.is(row[1] + " is a change", x.count(12), states + 1);
        }
        WarmHouses x = new WarmHouses();
        due.is("play() of no order", x.play(), 0);
        due.is("is a change", x.count(12), 1);
        Scene.write(x, "n;n;n;");
        due.is("play() of three orders", x.play(), 3);
        due.is("is one change", x.count(12), 2);
        x.type('n');
        x.play();
        x.fault(0);
        x.survivors(0, 3);
        x.survivors(1, 3);
        x.clearText();
        due.is("errors, questions and the text are none", x.count(12), 2);
        x.undo();
        due.is("nor is undo()", x.count(12), 1);
    }

    private static void history() {
        String part = "Changes and errors";
        sentences.test(part, "A history of at most 4 states is kept");
        due.is("none", new WarmHouses().count(12), 0);
        due.is("three", Scene.after("3n").count(12), 3);
        due.is("four", Scene.after("4n").count(12), 4);
        due.is("not five", Scene.after("5n").count(12), 4);
        due.is("four again behind a step back", Scene.after("5n ^ 2n").count(12), 4);
        due.is("all four can be restored", Scene.after("4n ^ ^ ^ ^").count(0), 0);
        WarmHouses x = Scene.after("4n 'n;x'");
        x.hold(4, 0);
        x.survivors(1, 3);
        x.fault(0);
        x.play();
        Scene.go(x, "^ ^ ^ ^");
        due.is("also behind calls that are no changes", x.count(0), 0);
        due.is("the oldest one is as it was", x.houseOf(0, 0), NOT_FOUND);

        sentences.test(part, "each change records everything before it but the text");
        for (String[] row : CHANGES) {
            x = Scene.after(row[0] + " " + row[1] + " ^");
            due.same("undo() of " + row[1], Scene.lookAtAll(x), Scene.lookAtAll(Scene.after(row[0])));
        }
        x = Scene.after("'n;n;'");
        x.play();
        Scene.write(x, "n;");
        due.is("undo() of play()", x.undo(), 0);
        due.is("all its orders", x.count(0), 0);
        due.is("the text stays", x.count(13), 2);

        sentences.test(part, "and if there are 5 states then, the oldest one is dropped");
        x = Scene.after("5n ^ ^ ^ ^");
        due.is("the fifth step back", x.undo(), NOT_POSSIBLE);
        due.is("the first thing stays", x.count(0), 1);
        // The states go around in what holds them.
        for (int changes = 4; changes <= 30; changes++) {
            x = Scene.after(changes + "n ^ ^ ^ ^");
            due.is("four steps back from " + changes, x.count(0), changes - 4);
            due.is("not five", x.undo(), NOT_POSSIBLE);
        }
    }

    private static void severalErrors() {
        sentences.test("Changes and errors", "If several errors apply to a call, INVALID_ARGUMENT is returned rather than "
            + "NOT_POSSIBLE, NOT_POSSIBLE rather than LIMIT_REACHED, and LIMIT_REACHED rather than NOT_FOUND.");
        WarmHouses x = Scene.after("2n p1 f");
        due.is("release(4)", x.release(4), INVALID);
        due.is("loosen(0, 0): it is gone, and loose", x.loosen(0, 0), INVALID);
        due.is("loosen(1, 3)", x.loosen(1, 3), INVALID);
        due.is("unpin(0): it is gone, and not pinned", x.unpin(0), INVALID);
        due.is("pin(33)", x.pin(33), INVALID);
        due.is("winter(2) where no winter is possible", Scene.after(Scene.NO_ROOM).winter(2), INVALID);
        due.is("thingOf(0, 10)", x.thingOf(0, 10), INVALID);
        due.is("thingOf(2, 1)", x.thingOf(2, 1), INVALID);
        due.is("houseOf(8, 0)", x.houseOf(8, 0), INVALID);
        due.is("houseOf(7, 8)", x.houseOf(7, 8), INVALID);
        due.is("handOf(4)", x.handOf(4), INVALID);
        due.is("noteAt(-1)", x.noteAt(-1), INVALID);
        due.is("far(0)", x.far(0), INVALID);
        due.is("fault(2) without a fault", x.fault(2), INVALID);
        Scene.write(x, "n".repeat(60));
        due.is("type(127) with 60 characters", x.type(127), INVALID);
        StringBuilder last = new StringBuilder("22n f");
        for (int i = 22; i < 30; i++) {
            last.append(" n p").append(i).append(" w0");
        }
        due.is("thing() without room and after 30", Scene.after(last.toString()).thing(), NOT_POSSIBLE);
    }

    private record Call(String name, ToIntFunction<WarmHouses> call, int answer) {
    }

    private static void refusedCalls() {
        sentences.test("Changes and errors", "A call that returns an error changes nothing.");
        String scene = Scene.EACH_AGE + " 3n h0,3 p4 s0,0,2 s3,1,4 s3,2,3 'n;h1,0;l3;'";
        Call[] calls = {new Call("hold(4, 0)", x -> x.hold(4, 0), INVALID), new Call("hold(0, 6)", x -> x.hold(0, 6), INVALID),
            new Call("release(1)", x -> x.release(1), NOT_POSSIBLE), new Call("release(4)", x -> x.release(4), INVALID),
            new Call("tie(6, 0, 0)", x -> x.tie(6, 0, 0), INVALID), new Call("tie(0, 3, 0)", x -> x.tie(0, 3, 0), INVALID),
            new Call("tie(0, 0, 6)", x -> x.tie(0, 0, 6), INVALID), new Call("loosen(6, 0)", x -> x.loosen(6, 0), INVALID),
            new Call("loosen(0, 3)", x -> x.loosen(0, 3), INVALID), new Call("loosen(0, 1)", x -> x.loosen(0, 1), NOT_POSSIBLE),
            new Call("pin(6)", x -> x.pin(6), INVALID), new Call("pin(4)", x -> x.pin(4), NOT_POSSIBLE),
            new Call("unpin(6)", x -> x.unpin(6), INVALID), new Call("unpin(3)", x -> x.unpin(3), NOT_POSSIBLE),
            new Call("winter(2)", x -> x.winter(2), INVALID), new Call("thingOf(6, 0)", x -> x.thingOf(6, 0), INVALID),
            new Call("thingOf(0, 10)", x -> x.thingOf(0, 10), INVALID),
            new Call("thingOf(0, 5)", x -> x.thingOf(0, 5), NOT_FOUND),
            new Call("houseOf(8, 0)", x -> x.houseOf(8, 0), INVALID), new Call("houseOf(7, 0)", x -> x.houseOf(7, 0), NOT_FOUND),
            new Call("handOf(4)", x -> x.handOf(4), INVALID), new Call("handOf(1)", x -> x.handOf(1), NOT_FOUND),
            new Call("noteAt(-1)", x -> x.noteAt(-1), INVALID), new Call("noteAt(1)", x -> x.noteAt(1), NOT_FOUND),
            new Call("needed(2)", x -> x.needed(2), INVALID), new Call("survivors(2, 3)", x -> x.survivors(2, 3), INVALID),
            new Call("survivors(1, 4)", x -> x.survivors(1, 4), INVALID), new Call("keptBy(6)", x -> x.keptBy(6), INVALID),
            new Call("far(6)", x -> x.far(6), INVALID), new Call("far(5)", x -> x.far(5), NOT_FOUND),
            new Call("count(14)", x -> x.count(14), INVALID), new Call("type(31)", x -> x.type(31), INVALID),
            new Call("type(127)", x -> x.type(127), INVALID), new Call("fault(2)", x -> x.fault(2), INVALID),
            new Call("play()", x -> x.play(), NOT_POSSIBLE)};
        for (Call each : calls) {
            changesNothing(scene, each.name(), each.call(), each.answer());
        }
        changesNothing("30n", "thing() after 30", x -> x.thing(), LIMIT);
        changesNothing(Scene.NO_ROOM + " 3n", "thing() without room", x -> x.thing(), NOT_POSSIBLE);
        changesNothing(Scene.NO_ROOM, "winter(0) without room", x -> x.winter(0), NOT_POSSIBLE);
        changesNothing("n ^", "undo() without a state", x -> x.undo(), NOT_POSSIBLE);
        changesNothing("n '" + "n;".repeat(30) + "'", "type(110) with 60", x -> x.type(110), LIMIT);
        changesNothing("2n 'n;h0,0;f;w0;'", "fault(0) of none", x -> x.fault(0), NOT_FOUND);
    }

    private static void changesNothing(String scene, String name, ToIntFunction<WarmHouses> call, int answer) {
        WarmHouses x = Scene.after(scene);
        due.is(name, call.applyAsInt(x), answer);
        due.same(name + " changes nothing", Scene.look(x), Scene.look(Scene.after(scene)));
    }

    private static void noSuchThing() {
        sentences.test("Changes and errors", "If there is no thing with a certain number that lives, this is INVALID_ARGUMENT, "
            + "unless something else is told.");
        // 0 is gone, 1 lives, 2 did not come; 32 and 33 have the lowest bits of 0 and 1.
        WarmHouses x = Scene.after("2n p1 f");
        for (int thing : new int[] {0, -1, 2, 29, 30, 31, 32, 33, -31, 257, MIN, MAX}) {
            due.is("hold(0, " + thing + ")", x.hold(0, thing), INVALID);
            due.is("tie(" + thing + ", 0, 1)", x.tie(thing, 0, 1), INVALID);
            due.is("tie(1, 0, " + thing + ")", x.tie(1, 0, thing), INVALID);
            due.is("loosen(" + thing + ", 0)", x.loosen(thing, 0), INVALID);
            due.is("pin(" + thing + ")", x.pin(thing), INVALID);
            due.is("unpin(" + thing + ")", x.unpin(thing), INVALID);
            due.is("keptBy(" + thing + ")", x.keptBy(thing), INVALID);
            due.is("far(" + thing + ")", x.far(thing), INVALID);
        }
        due.is("something else is told for thingOf", x.thingOf(0, 0), 0);
    }

    private static void constants() {
        String part = "Changes and errors";
        sentences.test(part, "`INVALID_ARGUMENT = -1000001`: An argument is out of its range, or there is no such thing that "
            + "lives.");
        due.is("INVALID_ARGUMENT", WarmHouses.INVALID_ARGUMENT, -1000001);
        due.is("out of its range", new WarmHouses().winter(2), -1000001);
        due.is("no such thing", new WarmHouses().pin(0), -1000001);
        sentences.test(part, "`NOT_POSSIBLE = -1000002`: The call is not possible in the present state.");
        due.is("NOT_POSSIBLE", WarmHouses.NOT_POSSIBLE, -1000002);
        due.is("undo() of a new object", new WarmHouses().undo(), -1000002);
        sentences.test(part, "`LIMIT_REACHED = -1000003`: A fixed limit has been reached.");
        due.is("LIMIT_REACHED", WarmHouses.LIMIT_REACHED, -1000003);
        due.is("the thing behind the thirtieth", Scene.after("30n").thing(), -1000003);
        sentences.test(part, "`NOT_FOUND = -1000004`: There is no such value.");
        due.is("NOT_FOUND", WarmHouses.NOT_FOUND, -1000004);
        due.is("the first note of a new object", new WarmHouses().noteAt(0), -1000004);

        for (String calls : new String[] {"things, hands, strings.", "---- winters.", "what there is.", "---- texts."}) {
            sentences.testedElsewhere(part, calls);
        }
    }
}
