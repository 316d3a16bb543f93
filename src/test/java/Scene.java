import java.util.regex.Matcher;
import java.util.regex.Pattern;

/** Objects after some calls, told in one line, and all that can be seen of an object. */
public final class Scene {
    /** Thing 0 is of the age 2 in house 0, thing 1 of 1 in house 2, thing 2 of 0 in house 1; none is held. */
    public static final String EACH_AGE = "n h0,0 w0 w1 n h1,1 w0 n l0 l1";
    /** Houses 0 to 6 are of the age 2; 7 and 8 live in house 7 and are of the age 0, and 8 is held. */
    public static final String NO_ROOM = warm(7) + "2n h0,8";

    private static final Pattern CALL = Pattern.compile("(\\d*)([nhlsupowf^])(\\d*),?(\\d*),?(\\d*)");

    private Scene() {
    }

    /**
     * An object after calls that are told like the orders of a text, without ";"; besides there are
     * "o" (takes the pin off a thing), "^" (undo), 'n;n;' (types the text) and "3n" (three times "n").
     */
    public static WarmHouses after(String calls) {
        WarmHouses x = new WarmHouses();
        go(x, calls);
        return x;
    }

    /** None of the calls may be refused. */
    public static void go(WarmHouses x, String calls) {
        for (String call : calls.trim().split("\\s+")) {
            if (call.isEmpty()) {
                continue;
            }
            if (call.startsWith("'")) {
                write(x, call.substring(1, call.length() - 1));
                continue;
            }
            Matcher m = CALL.matcher(call);
            if (!m.matches()) {
                throw new IllegalStateException(call + " is no call");
            }
            int times = m.group(1).isEmpty() ? 1 : Integer.parseInt(m.group(1));
            for (int i = 0; i < times; i++) {
                if (one(x, m.group(2), number(m, 3), number(m, 4), number(m, 5)) < 0) {
                    throw new IllegalStateException(call + " is refused in " + calls);
                }
            }
        }
    }

    /** Types a text in place of the one that is there. */
    public static void write(WarmHouses x, String text) {
        x.clearText();
        for (int i = 0; i < text.length(); i++) {
            x.type(text.charAt(i));
        }
    }

    /** Calls after which each of so many houses has one thing, pinned and of the age 2. */
    public static String warm(int houses) {
        StringBuilder calls = new StringBuilder();
        for (int i = 0; i < houses; i++) {
            calls.append("n p").append(i).append(" w1 w1 ");
        }
        return calls.toString();
    }

    private static int number(Matcher m, int group) {
        return m.group(group).isEmpty() ? 0 : Integer.parseInt(m.group(group));
    }

    private static int one(WarmHouses x, String letter, int a, int b, int c) {
        switch (letter) {
            case "n": return x.thing();
            case "h": return x.hold(a, b);
            case "l": return x.release(a);
            case "s": return x.tie(a, b, c);
            case "u": return x.loosen(a, b);
            case "p": return x.pin(a);
            case "o": return x.unpin(a);
            case "w": return x.winter(a);
            case "f": return x.full();
            default: return x.undo();
        }
    }

    /** What can be seen of an object, its text and its history too; some 420 calls, by which the history is emptied. */
    public static String look(WarmHouses x) {
        StringBuilder seen = new StringBuilder(lookAtAll(x)).append("states ").append(x.count(12)).append('\n');
        for (int i = 0; i < 5; i++) {
            seen.append("undo ").append(x.undo()).append(": ").append(x.needed(0)).append(' ').append(x.needed(1));
            for (int what = 0; what < 9; what++) {
                seen.append(' ').append(x.count(what));
            }
            seen.append('\n');
        }
        return seen.toString();
    }

    /** What can be seen of an object, but its history. */
    public static String lookAtAll(WarmHouses x) {
        StringBuilder seen = new StringBuilder();
        for (int thing = 0; thing < x.count(0); thing++) {
            seen.append("thing ").append(thing).append(':');
            for (int what = 0; what < 10; what++) {
                seen.append(' ').append(x.thingOf(thing, what));
            }
            seen.append('\n');
        }
        for (int house = 0; house < 8; house++) {
            seen.append("house ").append(house).append(": ").append(x.houseOf(house, 0)).append(' ')
                .append(x.houseOf(house, 2)).append('\n');
        }
        for (int hand = 0; hand < 4; hand++) {
            seen.append("hand ").append(x.handOf(hand)).append('\n');
        }
        for (int what = 0; what < 14; what++) {
            if (what != 12) {
                seen.append("count ").append(what).append(": ").append(x.count(what)).append('\n');
            }
        }
        seen.append("note ").append(x.noteAt(0)).append('\n');
        return seen.append("fault ").append(x.fault(0)).append(' ').append(x.fault(1)).append('\n').toString();
    }
}
