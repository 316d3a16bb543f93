import support.Due;
import support.Model;

/** Many made-up runs of calls, each answered by the class and by the model. */
public final class ModelTest {
    private static final String[] CHANGES = {"thing", "thing", "thing", "hold", "hold", "release", "tie", "tie", "tie", "tie",
        "loosen", "pin", "unpin", "winter", "winter", "full", "undo"};
    private static final String[] QUESTIONS = {"thingOf", "houseOf", "handOf", "noteAt", "needed", "survivors", "keptBy",
        "far", "count", "fault"};
    private static final int[] STRANGE = {-1, -2, Integer.MIN_VALUE, Integer.MAX_VALUE, 31, 32, 64, 1 << 20};
    private static final int CALLS = 512;
    private static final Due due = new Due();

    private long seed;
    private final WarmHouses x = new WarmHouses();
    private final Model model = new Model();
    private final StringBuilder log = new StringBuilder();
    private int calls = 0;

    private ModelTest(long seed) {
        this.seed = seed * 0x9E3779B97F4A7C15L + 12345;
    }

    public static void main(String[] args) {
        for (int run = 0; run < 600 && due.allRight(); run++) {
            due.promise("run " + run);
            new ModelTest(run).mixedRun(run % 4);
        }
        for (int run = 600; run < 1500 && due.allRight(); run++) {
            due.promise("run " + run);
            new ModelTest(run).runThenEverything();
        }
        due.end();
    }

    private int below(int bound) {
        seed = seed * 6364136223846793005L + 1442695040888963407L;
        return (int) ((seed >>> 33) % bound);
    }

    private int some(int bound) {
        return below(60) == 0 ? STRANGE[below(STRANGE.length)] : below(25) == 0 ? bound : below(bound);
    }

    /** A kind of run: 0 as it comes, 1 with many pins and winters, 2 with many texts, 3 with few full turns. */
    private void mixedRun(int kind) {
        while (calls < CALLS && due.allRight()) {
            int dice = below(10);
            if (dice < 4) {
                change(kind);
            } else if (dice < 5 || kind == 2 && dice < 6) {
                text();
            } else {
                question();
            }
        }
    }

    private void runThenEverything() {
        int changes = 1 + below(100);
        int kind = below(4);
        for (int i = 0; i < changes && due.allRight(); i++) {
            change(kind);
        }
        for (int house = 0; house < 8; house++) {
            for (int what = 0; what < 8; what++) {
                same("houseOf", house, what, 0);
            }
        }
        for (int thing = 0; thing < 30; thing++) {
            for (int what = 0; what < 9; what++) {
                same("thingOf", thing, what, 0);
            }
        }
        for (int what = 0; what < 14; what++) {
            same("count", what, 0, 0);
        }
        for (int i = 0; i < 8; i++) {
            same("survivors", i / 4, i % 4, 0);
        }
        for (int hand = 0; hand < 4; hand++) {
            same("handOf", hand, 0, 0);
        }
        same("needed", 0, 0, 0);
        same("needed", 1, 0, 0);
        same("undo", 0, 0, 0);
    }

    private void change(int kind) {
        String name = CHANGES[below(CHANGES.length)];
        if (name.equals("full") && kind != 0 && below(5) > 0) {
            name = "tie";
        }
        if (kind == 1 && below(4) == 0) {
            name = below(2) == 0 ? "pin" : "winter";
        }
        if (name.equals("hold") || name.equals("release")) {
            same(name, some(4), some(30), 0);
        } else if (name.equals("winter")) {
            same(name, below(3) == 0 ? some(2) : 0, 0, 0);
        } else if (name.equals("pin") || name.equals("unpin")) {
            same(name, thing(), 0, 0);
        } else {
            same(name, thing(), some(3), thing());
        }
    }

    /** Rather one that lives. */
    private int thing() {
        int thing = some(30);
        for (int i = 0; i < 6 && model.call("thingOf", thing, 0, 0) != 1 && below(12) > 0; i++) {
            thing = below(30);
        }
        return thing;
    }

    private void question() {
        String name = QUESTIONS[below(QUESTIONS.length)];
        switch (name) {
            case "thingOf": same(name, some(30), some(10), 0); break;
            case "houseOf": same(name, some(8), some(8), 0); break;
            case "handOf": same(name, some(4), 0, 0); break;
            case "noteAt": same(name, some(6), 0, 0); break;
            case "survivors": same(name, some(2), some(4), 0); break;
            case "keptBy":
            case "far": same(name, thing(), 0, 0); break;
            case "count": same(name, some(14), 0, 0); break;
            default: same(name, some(2), 0, 0); break;
        }
    }

    private void text() {
        StringBuilder text = new StringBuilder();
        int orders = below(9);
        for (int i = 0; i < orders; i++) {
            text.append(order());
        }
        if (below(6) == 0 && text.length() > 0) {
            text.setCharAt(below(text.length()), "nhlsupwf;,0129 x".charAt(below(16)));
        }
        if (below(8) > 0) {
            same("clearText", 0, 0, 0);
        }
        for (int i = 0; i < text.length(); i++) {
            same("type", text.charAt(i), 0, 0);
        }
        if (below(20) == 0) {
            same("type", STRANGE[below(STRANGE.length)], 0, 0);
        }
        same("fault", 0, 0, 0);
        same("fault", 1, 0, 0);
        same("play", 0, 0, 0);
        same("fault", 0, 0, 0);
    }

    private String order() {
        switch (below(9)) {
            case 0:
            case 1: return "n;";
            case 2: return "h" + number(some(4)) + "," + number(thing()) + ";";
            case 3: return "l" + number(below(4)) + ";";
            case 4: return "s" + number(thing()) + "," + number(some(3)) + "," + number(thing()) + ";";
            case 5: return "u" + number(thing()) + "," + number(some(3)) + ";";
            case 6: return "p" + number(thing()) + ";";
            case 7: return "w" + number(some(2)) + ";";
            default: return below(3) == 0 ? "f;" : "n;";
        }
    }

    private String number(int value) {
        return value >= 0 && value < 10 && below(5) == 0 ? "0" + value : String.valueOf(value);
    }

    private void same(String name, int a, int b, int c) {
        if (calls >= CALLS || !due.allRight()) {
            return;
        }
        calls++;
        int got = answer(name, a, b, c);
        int want = model.call(name, a, b, c);
        log.append(name).append('(').append(a).append(", ").append(b).append(", ").append(c).append(") = ").append(got)
            .append('\n');
        if (got != want) {
            System.out.print(log);
        }
        due.is(name + "(" + a + ", " + b + ", " + c + ")", got, want);
    }

    private int answer(String name, int a, int b, int c) {
        switch (name) {
            case "thing": return x.thing();
            case "hold": return x.hold(a, b);
            case "release": return x.release(a);
            case "tie": return x.tie(a, b, c);
            case "loosen": return x.loosen(a, b);
            case "pin": return x.pin(a);
            case "unpin": return x.unpin(a);
            case "winter": return x.winter(a);
            case "full": return x.full();
            case "thingOf": return x.thingOf(a, b);
            case "houseOf": return x.houseOf(a, b);
            case "handOf": return x.handOf(a);
            case "noteAt": return x.noteAt(a);
            case "needed": return x.needed(a);
            case "survivors": return x.survivors(a, b);
            case "keptBy": return x.keptBy(a);
            case "far": return x.far(a);
            case "count": return x.count(a);
            case "undo": return x.undo();
            case "type": return x.type(a);
            case "clearText": return x.clearText();
            case "fault": return x.fault(a);
            case "play": return x.play();
            default: throw new IllegalArgumentException(name);
        }
    }
}
