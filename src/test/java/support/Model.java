package support;

import java.util.ArrayList;
import java.util.List;
import java.util.TreeSet;
import java.util.regex.Matcher;
import java.util.regex.Pattern;

/**
 * The document written down a second time, slowly and with other means than the class:
 * things are objects, sets are TreeSets, the history is a list of whole copies.
 */
public final class Model {
    private static final class Thing {
        boolean lives = true;
        int house;
        int place;
        boolean pinned;
        int moved;
        final Integer[] strings = new Integer[3];
    }

    private static final class World {
        final List<Thing> things = new ArrayList<>();
        final Integer[] ages = new Integer[8];
        final Integer[] hands = new Integer[4];
        int winters;
        int fulls;

        World copy() {
            World w = new World();
            for (Thing t : things) {
                Thing c = new Thing();
                c.lives = t.lives;
                c.house = t.house;
                c.place = t.place;
                c.pinned = t.pinned;
                c.moved = t.moved;
                System.arraycopy(t.strings, 0, c.strings, 0, 3);
                w.things.add(c);
            }
            System.arraycopy(ages, 0, w.ages, 0, 8);
            System.arraycopy(hands, 0, w.hands, 0, 4);
            w.winters = winters;
            w.fulls = fulls;
            return w;
        }
    }

    private World w = new World();
    private final List<World> history = new ArrayList<>();
    private String text = "";

    private static final Pattern ORDER = Pattern.compile(
        "(?:([nf])|([lpw])(\\d{1,2})|([hu])(\\d{1,2}),(\\d{1,2})|(s)(\\d{1,2}),(\\d{1,2}),(\\d{1,2}));");

    // ---- sets

    private static int bits(Iterable<Integer> numbers) {
        int set = 0;
        for (int number : numbers) {
            set += 1 << number;
        }
        return set;
    }

    private boolean alive(int thing) {
        return thing >= 0 && thing < w.things.size() && w.things.get(thing).lives;
    }

    private int age(int thing) {
        return w.ages[w.things.get(thing).house];
    }

    private Integer at(int house, int place) {
        for (int i = 0; i < w.things.size(); i++) {
            Thing t = w.things.get(i);
            if (t.lives && t.house == house && t.place == place) {
                return i;
            }
        }
        return null;
    }

    private TreeSet<Integer> living() {
        TreeSet<Integer> set = new TreeSet<>();
        for (int i = 0; i < w.things.size(); i++) {
            if (alive(i)) {
                set.add(i);
            }
        }
        return set;
    }

    private boolean isRoot(int thing) {
        for (Integer held : w.hands) {
            if (held != null && held == thing) {
                return true;
            }
        }
        return w.things.get(thing).pinned;
    }

    private void follow(int thing, TreeSet<Integer> allowed, TreeSet<Integer> seen) {
        if (!allowed.contains(thing) || !seen.add(thing)) {
            return;
        }
        for (Integer to : w.things.get(thing).strings) {
            if (to != null) {
                follow(to, allowed, seen);
            }
        }
    }

    private TreeSet<Integer> neededWithout(int missing) {
        TreeSet<Integer> allowed = living();
        allowed.remove(missing);
        TreeSet<Integer> seen = new TreeSet<>();
        for (int i : living()) {
            if (isRoot(i)) {
                follow(i, allowed, seen);
            }
        }
        return seen;
    }

    private TreeSet<Integer> forgotten() {
        TreeSet<Integer> set = living();
        set.removeAll(neededWithout(-1));
        return set;
    }

    private TreeSet<Integer> concerned(int age) {
        TreeSet<Integer> set = living();
        set.removeIf(i -> age(i) > age);
        return set;
    }

    private TreeSet<Integer> surviving(int age) {
        TreeSet<Integer> concerned = concerned(age);
        TreeSet<Integer> seen = new TreeSet<>();
        for (int i : living()) {
            if (isRoot(i)) {
                follow(i, concerned, seen);
            }
            if (age(i) > age) {
                for (Integer to : w.things.get(i).strings) {
                    if (to != null && age(to) < age(i)) {
                        follow(to, concerned, seen);
                    }
                }
            }
        }
        return seen;
    }

    // ---- changes on the world, without the history

    private int[] room(int age) {
        for (int house = 0; house < 8; house++) {
            for (int place = 0; place < 5; place++) {
                if (w.ages[house] != null && w.ages[house] == age && at(house, place) == null) {
                    return new int[] {house, place};
                }
            }
        }
        for (int house = 0; house < 8; house++) {
            if (w.ages[house] == null) {
                return new int[] {house, 0};
            }
        }
        return null;
    }

    private void put(Thing t, int[] room, int age) {
        t.house = room[0];
        t.place = room[1];
        w.ages[room[0]] = age;
    }

    private void drop(TreeSet<Integer> gone) {
        for (int i : gone) {
            Thing t = w.things.get(i);
            t.lives = false;
            for (int s = 0; s < 3; s++) {
                t.strings[s] = null;
            }
        }
        for (int house = 0; house < 8; house++) {
            boolean empty = true;
            for (int place = 0; place < 5; place++) {
                empty &= at(house, place) == null;
            }
            if (empty) {
                w.ages[house] = null;
            }
        }
    }

    private int doThing() {
        int[] room = room(0);
        if (room == null) {
            return Due.NOT_POSSIBLE;
        }
        if (w.things.size() == 30) {
            return Due.LIMIT;
        }
        Thing t = new Thing();
        put(t, room, 0);
        w.things.add(t);
        return w.things.size() - 1;
    }

    private int doHold(int hand, int thing) {
        if (hand < 0 || hand > 3 || !alive(thing)) {
            return Due.INVALID;
        }
        w.hands[hand] = thing;
        int full = 0;
        for (Integer held : w.hands) {
            full += held == null ? 0 : 1;
        }
        return full;
    }

    private int doRelease(int hand) {
        if (hand < 0 || hand > 3) {
            return Due.INVALID;
        }
        Integer held = w.hands[hand];
        w.hands[hand] = null;
        return held == null ? Due.NOT_POSSIBLE : held;
    }

    private int doTie(int thing, int string, int to) {
        if (!alive(thing) || string < 0 || string > 2 || !alive(to)) {
            return Due.INVALID;
        }
        w.things.get(thing).strings[string] = to;
        return age(to) < age(thing) ? 1 : 0;
    }

    private int doLoosen(int thing, int string) {
        if (!alive(thing) || string < 0 || string > 2) {
            return Due.INVALID;
        }
        Integer to = w.things.get(thing).strings[string];
        w.things.get(thing).strings[string] = null;
        return to == null ? Due.NOT_POSSIBLE : to;
    }

    private int doPin(int thing, boolean on) {
        if (!alive(thing)) {
            return Due.INVALID;
        }
        if (w.things.get(thing).pinned == on) {
            return Due.NOT_POSSIBLE;
        }
        w.things.get(thing).pinned = on;
        return pins();
    }

    private int pins() {
        int pins = 0;
        for (Thing t : w.things) {
            pins += t.pinned ? 1 : 0;
        }
        return pins;
    }

    private int doWinter(int age) {
        if (age != 0 && age != 1) {
            return Due.INVALID;
        }
        TreeSet<Integer> survivors = surviving(age);
        TreeSet<Integer> gone = concerned(age);
        gone.removeAll(survivors);
        Integer[] before = new Integer[30];
        for (int i : survivors) {
            before[i] = age(i);
        }
        for (int i : survivors) {
            if (w.things.get(i).pinned) {
                w.ages[w.things.get(i).house] = before[i] + 1;
            }
        }
        for (int i : survivors) {
            Thing t = w.things.get(i);
            if (!t.pinned) {
                int[] room = room(before[i] + 1);
                if (room == null) {
                    return Due.NOT_POSSIBLE;
                }
                put(t, room, before[i] + 1);
                t.moved++;
            }
        }
        drop(gone);
        w.winters++;
        return gone.size();
    }

    private int doFull() {
        TreeSet<Integer> gone = forgotten();
        drop(gone);
        w.fulls++;
        return gone.size();
    }

    /** The number of orders, or -1 - (position * 10 + reason). */
    private int doOrders() {
        Matcher m = ORDER.matcher(text);
        int at = 0;
        int orders = 0;
        while (at < text.length()) {
            m.region(at, text.length());
            if (!m.lookingAt()) {
                return -1 - (at * 10 + 1);
            }
            int answer = doOrder(m);
            if (answer < 0) {
                return -1 - (at * 10 + (answer == Due.INVALID ? 2 : 3));
            }
            orders++;
            at = m.end();
        }
        return orders;
    }

    private int doOrder(Matcher m) {
        if (m.group(1) != null) {
            return m.group(1).equals("n") ? doThing() : doFull();
        }
        if (m.group(2) != null) {
            int a = Integer.parseInt(m.group(3));
            return m.group(2).equals("l") ? doRelease(a) : m.group(2).equals("p") ? doPin(a, true) : doWinter(a);
        }
        if (m.group(4) != null) {
            int a = Integer.parseInt(m.group(5));
            int b = Integer.parseInt(m.group(6));
            return m.group(4).equals("h") ? doHold(a, b) : doLoosen(a, b);
        }
        return doTie(Integer.parseInt(m.group(8)), Integer.parseInt(m.group(9)), Integer.parseInt(m.group(10)));
    }

    /** Takes over a change that was tried, or takes it back. */
    private int settle(World before, int answer) {
        if (answer < 0) {
            w = before;
            return answer;
        }
        history.add(before);
        if (history.size() > 4) {
            history.remove(0);
        }
        return answer;
    }

    // ---- the calls, by their names

    /** Answers a call; a call has up to three arguments. */
    public int call(String name, int a, int b, int c) {
        World before = w.copy();
        switch (name) {
            case "thing": return settle(before, doThing());
            case "hold": return settle(before, doHold(a, b));
            case "release": return settle(before, doRelease(a));
            case "tie": return settle(before, doTie(a, b, c));
            case "loosen": return settle(before, doLoosen(a, b));
            case "pin": return settle(before, doPin(a, true));
            case "unpin": return settle(before, doPin(a, false));
            case "winter": return settle(before, doWinter(a));
            case "full": return settle(before, doFull());
            case "play":
                int orders = doOrders();
                return settle(before, orders < 0 ? Due.NOT_POSSIBLE : orders);
            case "fault":
                int fault = doOrders();
                w = before;
                if (a < 0 || a > 1) {
                    return Due.INVALID;
                }
                return fault >= 0 ? Due.NOT_FOUND : a == 0 ? (-1 - fault) / 10 : (-1 - fault) % 10;
            case "undo":
                if (history.isEmpty()) {
                    return Due.NOT_POSSIBLE;
                }
                w = history.remove(history.size() - 1);
                return history.size();
            case "type":
                if (a < 32 || a > 126) {
                    return Due.INVALID;
                }
                if (text.length() == 60) {
                    return Due.LIMIT;
                }
                text += (char) a;
                return text.length();
            case "clearText":
                int length = text.length();
                text = "";
                return length;
            default: return ask(name, a, b);
        }
    }

    private int ask(String name, int a, int b) {
        switch (name) {
            case "thingOf": return thingOf(a, b);
            case "houseOf": return houseOf(a, b);
            case "handOf": return a < 0 || a > 3 ? Due.INVALID : orNotFound(w.hands[a]);
            case "noteAt": return a < 0 ? Due.INVALID : a < notes().size() ? notes().get(a) : Due.NOT_FOUND;
            case "needed": return a == 0 ? bits(neededWithout(-1)) : a == 1 ? bits(forgotten()) : Due.INVALID;
            case "survivors": return survivors(a, b);
            case "keptBy": return keptBy(a);
            case "far": return far(a);
            case "count": return count(a);
            default: throw new IllegalArgumentException(name);
        }
    }

    private static int orNotFound(Integer value) {
        return value == null ? Due.NOT_FOUND : value;
    }

    private int thingOf(int thing, int what) {
        if (thing < 0 || thing >= w.things.size() || what < 0 || what > 9) {
            return Due.INVALID;
        }
        Thing t = w.things.get(thing);
        TreeSet<Integer> set = new TreeSet<>();
        switch (what) {
            case 0: return t.lives ? 1 : 0;
            case 1: return t.lives ? 10 * t.house + t.place : Due.NOT_FOUND;
            case 2: return t.lives ? age(thing) : Due.NOT_FOUND;
            case 3: return t.pinned ? 1 : 0;
            case 7:
                for (int hand = 0; hand < 4; hand++) {
                    if (w.hands[hand] != null && w.hands[hand] == thing) {
                        set.add(hand);
                    }
                }
                return bits(set);
            case 8:
                for (int i : living()) {
                    for (Integer to : w.things.get(i).strings) {
                        if (to != null && to == thing) {
                            set.add(i);
                        }
                    }
                }
                return bits(set);
            case 9: return t.moved;
            default: return orNotFound(t.strings[what - 4]);
        }
    }

    private int houseOf(int house, int what) {
        if (house < 0 || house > 7 || what < 0 || what > 7) {
            return Due.INVALID;
        }
        if (what == 0) {
            return orNotFound(w.ages[house]);
        }
        if (what >= 3) {
            return orNotFound(at(house, what - 3));
        }
        TreeSet<Integer> set = living();
        set.removeIf(i -> w.things.get(i).house != house);
        return what == 1 ? set.size() : bits(set);
    }

    private List<Integer> notes() {
        List<Integer> notes = new ArrayList<>();
        for (int i : living()) {
            for (int s = 0; s < 3; s++) {
                Integer to = w.things.get(i).strings[s];
                if (to != null && age(to) < age(i)) {
                    notes.add(10 * i + s);
                }
            }
        }
        return notes;
    }

    private int survivors(int age, int what) {
        if (age < 0 || age > 1 || what < 0 || what > 3) {
            return Due.INVALID;
        }
        TreeSet<Integer> set = surviving(age);
        if (what == 1) {
            TreeSet<Integer> gone = concerned(age);
            gone.removeAll(set);
            return bits(gone);
        }
        if (what == 2) {
            set.removeIf(i -> w.things.get(i).pinned);
            return set.size();
        }
        if (what == 3) {
            World before = w.copy();
            int answer = doWinter(age);
            w = before;
            return answer < 0 ? 0 : 1;
        }
        return bits(set);
    }

    private int keptBy(int thing) {
        if (!alive(thing)) {
            return Due.INVALID;
        }
        TreeSet<Integer> set = neededWithout(-1);
        set.removeAll(neededWithout(thing));
        set.remove(thing);
        return bits(set);
    }

    private int far(int thing) {
        if (!alive(thing)) {
            return Due.INVALID;
        }
        int[] distance = new int[30];
        for (int i = 0; i < 30; i++) {
            distance[i] = alive(i) && isRoot(i) ? 0 : 1000;
        }
        for (int round = 0; round < 30; round++) {
            for (int i : living()) {
                for (Integer to : w.things.get(i).strings) {
                    if (to != null) {
                        distance[to] = Math.min(distance[to], distance[i] + 1);
                    }
                }
            }
        }
        return distance[thing] >= 1000 ? Due.NOT_FOUND : distance[thing];
    }

    private int count(int what) {
        int sum = 0;
        switch (what) {
            case 0: return w.things.size();
            case 1: return living().size();
            case 2: return pins();
            case 3:
            case 4:
            case 5:
                for (int i : living()) {
                    sum += age(i) == what - 3 ? 1 : 0;
                }
                return sum;
            case 6:
                for (Integer age : w.ages) {
                    sum += age == null ? 1 : 0;
                }
                return sum;
            case 7: return notes().size();
            case 8: return w.winters;
            case 9: return w.fulls;
            case 10: return w.things.size() - living().size();
            case 11:
                for (Thing t : w.things) {
                    sum += t.moved;
                }
                return sum;
            case 12: return history.size();
            case 13: return text.length();
            default: return Due.INVALID;
        }
    }
}
