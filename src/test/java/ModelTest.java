import java.util.TreeMap;
import support.Due;
import support.Model;

/** Many made-up runs of calls, always the same ones, each call answered by the class and by the model. */
public final class ModelTest {
    private static final String[] CHANGES = {"thing", "thing", "thing", "hold", "hold", "release", "tie", "tie", "tie", "tie",
        "tie", "tie", "loosen", "pin", "unpin", "winter", "full", "undo"};
    private static final String[] QUESTIONS = {"thingOf", "houseOf", "handOf", "noteAt", "needed", "survivors", "keptBy",
        "far", "count", "fault"};
    private static final int[] STRANGE = {-1, -2, Integer.MIN_VALUE, Integer.MAX_VALUE, 31, 32, 64, 1 << 20};
    private static final int CALLS = 512;
    /** The calls that a look at everything takes. */
    private static final int LOOK = 417;
    private static final Due due = new Due();
    /** How often a call had an answer, by both: an error's name, or "0" or "more". */
    private static final TreeMap<String, Integer> seen = new TreeMap<>();

    private long seed;
    private final WarmHouses x = new WarmHouses();
    private final Model model = new Model();
    private final StringBuilder log = new StringBuilder();
    private int calls = 0;

    private ModelTest(long seed) {
        this.seed = seed * 0x9E3779B97F4A7C15L + 12345;
    }

    public static void main(String[] args) {
        for (int run = 0; run < 1800 && due.allRight(); run++) {
            due.promise("run " + run);
            ModelTest test = new ModelTest(run);
            switch (run % 3) {
                case 0: test.wildRun(); break;
                case 1: test.crowdedRun(CALLS); break;
                default: test.crowdedRun(CALLS - LOOK); break;
            }
            test.everything();
        }
        rareAnswers();
        due.end();
    }

    /** A run of calls that meets only empty houses would tell nothing: the runs must have met these. */
    private static void rareAnswers() {
        due.promise("the runs");
        for (String each : new String[] {"thing NOT_POSSIBLE", "thing LIMIT", "tie more", "loosen more", "unpin more",
            "winter NOT_POSSIBLE", "winter 0", "winter more", "full more", "survivors 0", "keptBy more", "far more",
            "far NOT_FOUND", "noteAt more", "undo more", "fault more", "play more", "own house more", "emptied house more"}) {
            due.holds("met " + each + " " + seen.getOrDefault(each, 0) + " times", seen.getOrDefault(each, 0) >= 100);
        }
    }

    // ---- chance

    private int below(int bound) {
        seed = seed * 6364136223846793005L + 1442695040888963407L;
        return (int) ((seed >>> 33) % bound);
    }

    private boolean once(int in) {
        return below(in) == 0;
    }

    /** Rather one that there is. */
    private int some(int bound) {
        return once(60) ? STRANGE[below(STRANGE.length)] : once(25) ? bound : below(bound);
    }

    /** A number of a set, 0 if it is empty. */
    private int oneOf(int set) {
        int skipped = set == 0 ? 0 : below(Integer.bitCount(set));
        int left = set;
        for (int i = 0; i < skipped; i++) {
            left &= left - 1;
        }
        return left == 0 ? 0 : Integer.numberOfTrailingZeros(left);
    }

    private int needed() {
        return model.call("needed", 0, 0, 0);
    }

    private int forgotten() {
        return model.call("needed", 1, 0, 0);
    }

    private int living() {
        return needed() | forgotten();
    }

    /** Rather one that lives. */
    private int thing() {
        return once(15) ? some(30) : oneOf(living());
    }

    // ---- runs of all calls and arguments

    private void wildRun() {
        for (int step = 0; step < CALLS; step++) {
            int dice = below(10);
            if (dice < 5) {
                change();
            } else if (dice < 6) {
                text();
            } else {
                question();
            }
        }
    }

    private void change() {
        String name = CHANGES[below(CHANGES.length)];
        switch (name) {
            case "hold": same(name, some(4), thing(), 0); break;
            case "release": same(name, some(4), 0, 0); break;
            case "winter": same(name, some(2), 0, 0); break;
            case "pin":
            case "unpin": same(name, thing(), 0, 0); break;
            default: same(name, thing(), some(3), thing()); break;
        }
    }

    private void question() {
        String name = QUESTIONS[below(QUESTIONS.length)];
        switch (name) {
            case "thingOf": same(name, some(30), some(10), 0); break;
            case "houseOf": same(name, some(8), some(8), 0); break;
            case "handOf": same(name, some(4), 0, 0); break;
            case "noteAt": same(name, some(6), 0, 0); break;
            case "survivors": same(name, some(2), some(4), 0); break;
            case "keptBy":
            case "far": same(name, thing(), 0, 0); break;
            case "count": same(name, some(14), 0, 0); break;
            default: same(name, some(2), 0, 0); break;
        }
    }

    // ---- runs with full houses of several ages, in which winters have little room

    private void crowdedRun(int most) {
        settleHouses(below(9), below(2));
        fillHouses(below(16));
        int winters = 1 + below(4);
        int pins = below(3);
        int unpins = below(3);
        for (int step = 0; step < 120 && calls < most; step++) {
            int dice = below(20);
            if (dice < winters) {
                winterWithLooks(once(3) ? 1 : 0);
            } else if (dice < winters + pins) {
                same("pin", oneOf(living()), 0, 0);
            } else if (dice < winters + pins + unpins) {
                same("unpin", oneOf(living()), 0, 0);
            } else if (dice < 14) {
                growth();
            } else if (dice < 19) {
                same("thing", 0, 0, 0);
            } else {
                decay();
            }
        }
    }

    /** Houses with one pinned thing each, of the age 2 alone or of all ages. */
    private void settleHouses(int houses, int ages) {
        for (int i = 0; i < houses; i++) {
            int thing = same("thing", 0, 0, 0);
            same("pin", thing, 0, 0);
            int winters = ages == 0 ? 2 : below(3);
            for (int j = 0; j < winters; j++) {
                same("winter", once(4) ? 0 : 1, 0, 0);
            }
            if (ages != 0 && once(4)) {
                same("unpin", thing, 0, 0);
            }
        }
    }

    private void fillHouses(int things) {
        for (int i = 0; i < things; i++) {
            same("thing", 0, 0, 0);
            growth();
        }
    }

    /** Rather something by which one more thing is needed. */
    private void growth() {
        int to = once(4) || forgotten() == 0 ? oneOf(living()) : oneOf(forgotten());
        if (needed() == 0 || once(6)) {
            same("hold", below(4), to, 0);
        } else {
            same("tie", once(5) ? oneOf(living()) : oneOf(needed()), below(3), to);
        }
    }

    private void decay() {
        switch (below(6)) {
            case 0: same("release", below(4), 0, 0); break;
            case 1: same("loosen", oneOf(living()), below(3), 0); break;
            case 2: same("full", 0, 0, 0); break;
            case 3: same("undo", 0, 0, 0); break;
            default: text(); break;
        }
    }

    private void winterWithLooks(int age) {
        for (int what = 0; what < 4; what++) {
            same("survivors", age, what, 0);
        }
        int[] before = places();
        if (same("winter", age, 0, 0) < 0) {
            return;
        }
        for (int house = 0; house < 8; house++) {
            same("houseOf", house, 0, 0);
            same("houseOf", house, 2, 0);
        }
        for (int rest = living(); rest != 0; rest &= rest - 1) {
            same("thingOf", Integer.numberOfTrailingZeros(rest), 1, 0);
        }
        countRareMoves(before, places());
    }

    private int[] places() {
        int[] places = new int[30];
        for (int thing = 0; thing < 30; thing++) {
            places[thing] = model.call("thingOf", thing, 1, 0);
        }
        return places;
    }

    /** Moves within a house whose age a pinned thing changed, and into a house that others had left. */
    private static void countRareMoves(int[] before, int[] after) {
        for (int thing = 0; thing < 30; thing++) {
            if (after[thing] < 0 || after[thing] == before[thing]) {
                continue;
            }
            int house = after[thing] / 10;
            if (before[thing] / 10 == house) {
                meet("own house", 1);
            } else if (livedIn(before, house) && leftBy(before, after, house)) {
                meet("emptied house", 1);
            }
        }
    }

    private static boolean livedIn(int[] places, int house) {
        for (int place : places) {
            if (place >= 0 && place / 10 == house) {
                return true;
            }
        }
        return false;
    }

    private static boolean leftBy(int[] before, int[] after, int house) {
        for (int thing = 0; thing < 30; thing++) {
            if (before[thing] >= 0 && before[thing] / 10 == house && after[thing] >= 0 && after[thing] / 10 == house) {
                return false;
            }
        }
        return true;
    }

    // ---- texts

    private void text() {
        StringBuilder text = new StringBuilder();
        int orders = below(9);
        for (int i = 0; i < orders; i++) {
            text.append(order());
        }
        if (once(6) && text.length() > 0) {
            text.setCharAt(below(text.length()), "nhlsupwf;,0129 x".charAt(below(16)));
        }
        if (!once(8)) {
            same("clearText", 0, 0, 0);
        }
        for (int i = 0; i < text.length(); i++) {
            same("type", text.charAt(i), 0, 0);
        }
        if (once(20)) {
            same("type", STRANGE[below(STRANGE.length)], 0, 0);
        }
        same("fault", 0, 0, 0);
        same("fault", 1, 0, 0);
        same("play", 0, 0, 0);
        same("fault", 0, 0, 0);
    }

    private String order() {
        switch (below(11)) {
            case 0:
            case 1:
            case 2: return "n;";
            case 3: return "h" + number(some(4)) + "," + number(thing()) + ";";
            case 4: return "l" + number(below(4)) + ";";
            case 5:
            case 6:
            case 7: return "s" + number(thing()) + "," + number(some(3)) + "," + number(thing()) + ";";
            case 8: return "u" + number(thing()) + "," + number(some(3)) + ";";
            case 9: return "p" + number(thing()) + ";";
            default: return once(3) ? "f;" : "w" + number(some(2)) + ";";
        }
    }

    private String number(int value) {
        return value >= 0 && value < 10 && once(5) ? "0" + value : String.valueOf(value);
    }

    // ---- answers

    /** All that there is to ask, as far as there are calls left. */
    private void everything() {
        for (int house = 0; house < 8; house++) {
            for (int what = 0; what < 8; what++) {
                same("houseOf", house, what, 0);
            }
        }
        for (int what = 0; what < 14; what++) {
            same("count", what, 0, 0);
        }
        for (int i = 0; i < 8; i++) {
            same("survivors", i / 4, i % 4, 0);
        }
        for (int hand = 0; hand < 4; hand++) {
            same("handOf", hand, 0, 0);
        }
        same("needed", 0, 0, 0);
        same("needed", 1, 0, 0);
        for (int i = 0; i < 8; i++) {
            same("noteAt", i, 0, 0);
            same("far", oneOf(living()), 0, 0);
            same("keptBy", oneOf(needed()), 0, 0);
        }
        for (int thing = 0; thing < 30; thing++) {
            for (int what = 0; what < 10; what++) {
                same("thingOf", thing, what, 0);
            }
        }
        same("undo", 0, 0, 0);
    }

    /** The answer that both give. */
    private int same(String name, int a, int b, int c) {
        if (calls >= CALLS || !due.allRight()) {
            return Due.NOT_FOUND;
        }
        calls++;
        int got = answer(name, a, b, c);
        int want = model.call(name, a, b, c);
        log.append(name).append('(').append(a).append(", ").append(b).append(", ").append(c).append(") = ").append(got)
            .append('\n');
        if (got != want) {
            System.out.print(log);
        }
        due.is(name + "(" + a + ", " + b + ", " + c + ")", got, want);
        if (!name.equals("survivors") || b == 3) {
            meet(name, want);
        }
        return want;
    }

    private static void meet(String name, int answer) {
        String kind = answer > 0 ? "more" : answer == 0 ? "0" : answer == Due.INVALID ? "INVALID"
            : answer == Due.NOT_POSSIBLE ? "NOT_POSSIBLE" : answer == Due.LIMIT ? "LIMIT" : "NOT_FOUND";
        seen.merge(name + " " + kind, 1, Integer::sum);
    }

    private int answer(String name, int a, int b, int c) {
        switch (name) {
            case "thing": return x.thing();
            case "hold": return x.hold(a, b);
            case "release": return x.release(a);
            case "tie": return x.tie(a, b, c);
            case "loosen": return x.loosen(a, b);
            case "pin": return x.pin(a);
            case "unpin": return x.unpin(a);
            case "winter": return x.winter(a);
            case "full": return x.full();
            case "thingOf": return x.thingOf(a, b);
            case "houseOf": return x.houseOf(a, b);
            case "handOf": return x.handOf(a);
            case "noteAt": return x.noteAt(a);
            case "needed": return x.needed(a);
            case "survivors": return x.survivors(a, b);
            case "keptBy": return x.keptBy(a);
            case "far": return x.far(a);
            case "count": return x.count(a);
            case "undo": return x.undo();
            case "type": return x.type(a);
            case "clearText": return x.clearText();
            case "fault": return x.fault(a);
            case "play": return x.play();
            default: throw new IllegalArgumentException(name);
        }
    }
}
