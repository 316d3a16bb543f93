/** Houses of ages: things, hands, strings, winters, full turns and texts of orders. */
public final class WarmHouses {
    public static final int INVALID_ARGUMENT = -1000001;
    public static final int NOT_POSSIBLE = -1000002;
    public static final int LIMIT_REACHED = -1000003;
    public static final int NOT_FOUND = -1000004;

    private static final int HOUSES = 8;
    private static final int PLACES = 5;
    private static final int THINGS = 30;
    private static final int STRINGS = 3;
    private static final int HANDS = 4;
    private static final int AGES = 3;
    private static final int WINTERS = 2;
    private static final int TEXT_LENGTH = 60;
    private static final int HISTORY = 4;
    /** The states of the history, the present one and one to try a change on. */
    private static final int SLOTS = HISTORY + 2;
    private static final int NONE = -1;

    /**
     * A ring: the history is right behind the present state, and the state ahead of
     * that one is free to try a change on. So no call makes an object.
     */
    private final Village[] slots = new Village[SLOTS];
    private final Orders orders = new Orders();
    private int present = 0;
    private int states = 0;

    public WarmHouses() {
        for (int slot = 0; slot < SLOTS; slot++) {
            slots[slot] = new Village();
        }
    }

    // ---- things, hands, strings

    public int thing() {
        return keep(trial().welcome());
    }

    public int hold(int hand, int thing) {
        return keep(trial().grip(hand, thing));
    }

    public int release(int hand) {
        return keep(trial().letGo(hand));
    }

    public int tie(int thing, int string, int to) {
        return keep(trial().fasten(thing, string, to));
    }

    public int loosen(int thing, int string) {
        return keep(trial().slacken(thing, string));
    }

    public int pin(int thing) {
        return keep(trial().setPin(thing));
    }

    public int unpin(int thing) {
        return keep(trial().takePin(thing));
    }

    // ---- winters

    public int winter(int age) {
        return keep(trial().passWinter(age));
    }

    public int full() {
        return keep(trial().turnFully());
    }

    // ---- what there is

    public int thingOf(int thing, int what) {
        Village village = now();
        if (!village.came(thing)) {
            return INVALID_ARGUMENT;
        }
        switch (what) {
            case 0:
                return village.lives(thing) ? 1 : 0;
            case 1:
                return found(village.addressOf(thing));
            case 2:
                return found(village.ageOf(thing));
            case 3:
                return has(village.pinned, thing) ? 1 : 0;
            case 4:
            case 5:
            case 6:
                return found(village.tiedAt(thing, what - 4));
            case 7:
                return village.handsOn(thing);
            case 8:
                return village.tiedTo(thing);
            case 9:
                return village.movesOf(thing);
            default:
                return INVALID_ARGUMENT;
        }
    }

    public int houseOf(int house, int what) {
        if (house < 0 || house >= HOUSES) {
            return INVALID_ARGUMENT;
        }
        Village village = now();
        switch (what) {
            case 0:
                return found(village.ages[house]);
            case 1:
                return Integer.bitCount(village.thingsIn(house));
            case 2:
                return village.thingsIn(house);
            case 3:
            case 4:
            case 5:
            case 6:
            case 7:
                return found(village.guests[house * PLACES + what - 3]);
            default:
                return INVALID_ARGUMENT;
        }
    }

    public int handOf(int hand) {
        if (hand < 0 || hand >= HANDS) {
            return INVALID_ARGUMENT;
        }
        return found(now().hands[hand]);
    }

    public int noteAt(int index) {
        if (index < 0) {
            return INVALID_ARGUMENT;
        }
        Village village = now();
        int left = index;
        for (int thing = 0; thing < THINGS; thing++) {
            for (int string = 0; string < STRINGS; string++) {
                if (village.isNoted(thing, string)) {
                    if (left == 0) {
                        return 10 * thing + string;
                    }
                    left--;
                }
            }
        }
        return NOT_FOUND;
    }

    public int needed(int what) {
        Village village = now();
        switch (what) {
            case 0:
                return village.neededSet();
            case 1:
                return village.livingSet() & ~village.neededSet();
            default:
                return INVALID_ARGUMENT;
        }
    }

    public int survivors(int age, int what) {
        if (age < 0 || age >= WINTERS) {
            return INVALID_ARGUMENT;
        }
        Village village = now();
        int surviving = village.survivingSet(age);
        switch (what) {
            case 0:
                return surviving;
            case 1:
                return village.concernedSet(age) & ~surviving;
            case 2:
                return Integer.bitCount(surviving & ~village.pinned);
            case 3:
                return trial().passWinter(age) >= 0 ? 1 : 0;
            default:
                return INVALID_ARGUMENT;
        }
    }

    public int keptBy(int thing) {
        Village village = now();
        if (!village.lives(thing)) {
            return INVALID_ARGUMENT;
        }
        int others = village.livingSet() & ~(1 << thing);
        int stillNeeded = village.reach(village.rootSet(), others);
        return village.neededSet() & others & ~stillNeeded;
    }

    public int far(int thing) {
        Village village = now();
        if (!village.lives(thing)) {
            return INVALID_ARGUMENT;
        }
        int reached = village.rootSet();
        for (int strings = 0; strings < THINGS; strings++) {
            if (has(reached, thing)) {
                return strings;
            }
            reached |= village.tiedFrom(reached);
        }
        return NOT_FOUND;
    }

    public int count(int what) {
        Village village = now();
        int lives = Integer.bitCount(village.livingSet());
        switch (what) {
            case 0:
                return village.comers;
            case 1:
                return lives;
            case 2:
                return Integer.bitCount(village.pinned);
            case 3:
            case 4:
            case 5:
                return Integer.bitCount(village.ageSet(what - 3));
            case 6:
                return village.freeHouses();
            case 7:
                return village.notedStrings();
            case 8:
                return village.winters;
            case 9:
                return village.fullTurns;
            case 10:
                return village.comers - lives;
            case 11:
                return village.moves;
            case 12:
                return states;
            case 13:
                return orders.length;
            default:
                return INVALID_ARGUMENT;
        }
    }

    public int undo() {
        if (states == 0) {
            return NOT_POSSIBLE;
        }
        present = (present + SLOTS - 1) % SLOTS;
        states--;
        return states;
    }

    // ---- texts

    public int type(int character) {
        if (character < 32 || character > 126) {
            return INVALID_ARGUMENT;
        }
        return orders.append(character);
    }

    public int clearText() {
        int length = orders.length;
        orders.length = 0;
        return length;
    }

    public int fault(int what) {
        if (what != 0 && what != 1) {
            return INVALID_ARGUMENT;
        }
        orders.runOn(trial());
        if (orders.reason == 0) {
            return NOT_FOUND;
        }
        return what == 0 ? orders.start : orders.reason;
    }

    public int play() {
        int orderCount = orders.runOn(trial());
        return keep(orders.reason == 0 ? orderCount : NOT_POSSIBLE);
    }

    // ---- states

    private Village now() {
        return slots[present];
    }

    /** A copy of the present state, on which anything may be tried. */
    private Village trial() {
        Village copy = slots[(present + 1) % SLOTS];
        copy.copyFrom(now());
        return copy;
    }

    /** Makes the tried state the present one, unless the answer of the trial is an error. */
    private int keep(int answer) {
        if (answer >= 0) {
            present = (present + 1) % SLOTS;
            states = Math.min(states + 1, HISTORY);
        }
        return answer;
    }

    private static int found(int value) {
        return value == NONE ? NOT_FOUND : value;
    }

    private static boolean has(int set, int number) {
        return (set >> number & 1) != 0;
    }

    /**
     * Everything that a change records. A change may leave it half done when it answers
     * with an error: it is always made on a copy, which is thrown away then.
     */
    private static final class Village {
        /** The age of each house, NONE if it is free. */
        final int[] ages = new int[HOUSES];
        /** The thing in each place, by PLACES times the house plus the place. */
        final int[] guests = new int[HOUSES * PLACES];
        /** Where each thing lives, in the same numbers, NONE if it does not. */
        final int[] spots = new int[THINGS];
        /** To what each string is tied, by STRINGS times the thing plus the string. */
        final int[] ties = new int[THINGS * STRINGS];
        final int[] movesByThing = new int[THINGS];
        final int[] hands = new int[HANDS];
        int pinned = 0;
        int comers = 0;
        int winters = 0;
        int fullTurns = 0;
        int moves = 0;

        Village() {
            clearRow(ages);
            clearRow(guests);
            clearRow(spots);
            clearRow(ties);
            clearRow(hands);
        }

        private static void clearRow(int[] row) {
            for (int i = 0; i < row.length; i++) {
                row[i] = NONE;
            }
        }

        void copyFrom(Village other) {
            System.arraycopy(other.ages, 0, ages, 0, HOUSES);
            System.arraycopy(other.guests, 0, guests, 0, HOUSES * PLACES);
            System.arraycopy(other.spots, 0, spots, 0, THINGS);
            System.arraycopy(other.ties, 0, ties, 0, THINGS * STRINGS);
            System.arraycopy(other.movesByThing, 0, movesByThing, 0, THINGS);
            System.arraycopy(other.hands, 0, hands, 0, HANDS);
            pinned = other.pinned;
            comers = other.comers;
            winters = other.winters;
            fullTurns = other.fullTurns;
            moves = other.moves;
        }

        // ---- changes

        int welcome() {
            int room = roomOf(0);
            if (room == NONE) {
                return NOT_POSSIBLE;
            }
            if (comers >= THINGS) {
                return LIMIT_REACHED;
            }
            int thing = comers;
            comers++;
            moveIn(thing, room, 0);
            return thing;
        }

        int grip(int hand, int thing) {
            if (!isHand(hand) || !lives(thing)) {
                return INVALID_ARGUMENT;
            }
            hands[hand] = thing;
            return fullHands();
        }

        int letGo(int hand) {
            if (!isHand(hand)) {
                return INVALID_ARGUMENT;
            }
            int thing = hands[hand];
            if (thing == NONE) {
                return NOT_POSSIBLE;
            }
            hands[hand] = NONE;
            return thing;
        }

        int fasten(int thing, int string, int to) {
            if (!lives(thing) || !isString(string) || !lives(to)) {
                return INVALID_ARGUMENT;
            }
            ties[thing * STRINGS + string] = to;
            return isNoted(thing, string) ? 1 : 0;
        }

        int slacken(int thing, int string) {
            if (!lives(thing) || !isString(string)) {
                return INVALID_ARGUMENT;
            }
            int to = tiedAt(thing, string);
            if (to == NONE) {
                return NOT_POSSIBLE;
            }
            ties[thing * STRINGS + string] = NONE;
            return to;
        }

        int setPin(int thing) {
            if (!lives(thing)) {
                return INVALID_ARGUMENT;
            }
            if (has(pinned, thing)) {
                return NOT_POSSIBLE;
            }
            pinned |= 1 << thing;
            return Integer.bitCount(pinned);
        }

        int takePin(int thing) {
            if (!lives(thing)) {
                return INVALID_ARGUMENT;
            }
            if (!has(pinned, thing)) {
                return NOT_POSSIBLE;
            }
            pinned &= ~(1 << thing);
            return Integer.bitCount(pinned);
        }

        int passWinter(int age) {
            if (age < 0 || age >= WINTERS) {
                return INVALID_ARGUMENT;
            }
            int surviving = survivingSet(age);
            int leaving = concernedSet(age) & ~surviving;
            // The ages before the winter: the houses of pinned things grow older below.
            int youngest = ageSet(0);
            warmHousesWith(surviving & pinned);
            for (int thing = 0; thing < THINGS; thing++) {
                if (has(surviving & ~pinned, thing)) {
                    if (!moveToRoom(thing, has(youngest, thing) ? 1 : 2)) {
                        return NOT_POSSIBLE;
                    }
                }
            }
            remove(leaving);
            winters++;
            return Integer.bitCount(leaving);
        }

        int turnFully() {
            int leaving = livingSet() & ~neededSet();
            remove(leaving);
            fullTurns++;
            return Integer.bitCount(leaving);
        }

        /** Each house with a thing of the set becomes older by 1, once. */
        private void warmHousesWith(int set) {
            for (int house = 0; house < HOUSES; house++) {
                if ((thingsIn(house) & set) != 0) {
                    ages[house]++;
                }
            }
        }

        private boolean moveToRoom(int thing, int age) {
            int room = roomOf(age);
            if (room == NONE) {
                return false;
            }
            // The room is looked for first: its own place is not empty for it.
            moveOut(thing);
            moveIn(thing, room, age);
            movesByThing[thing]++;
            moves++;
            return true;
        }

        private void moveIn(int thing, int room, int age) {
            ages[room / PLACES] = age;
            guests[room] = thing;
            spots[thing] = room;
        }

        private void moveOut(int thing) {
            int spot = spots[thing];
            if (spot != NONE) {
                guests[spot] = NONE;
                spots[thing] = NONE;
            }
        }

        private void remove(int set) {
            for (int thing = 0; thing < THINGS; thing++) {
                if (has(set, thing)) {
                    moveOut(thing);
                    for (int string = 0; string < STRINGS; string++) {
                        ties[thing * STRINGS + string] = NONE;
                    }
                }
            }
            freeEmptyHouses();
        }

        private void freeEmptyHouses() {
            for (int house = 0; house < HOUSES; house++) {
                if (thingsIn(house) == 0) {
                    ages[house] = NONE;
                }
            }
        }

        /** The place that room of an age is, NONE if there is none. */
        private int roomOf(int age) {
            for (int house = 0; house < HOUSES; house++) {
                if (ages[house] == age) {
                    int spot = emptySpotIn(house);
                    if (spot != NONE) {
                        return spot;
                    }
                }
            }
            // A house that has become empty in a winter still has its age: it is not free.
            for (int house = 0; house < HOUSES; house++) {
                if (ages[house] == NONE) {
                    return house * PLACES;
                }
            }
            return NONE;
        }

        private int emptySpotIn(int house) {
            for (int place = 0; place < PLACES; place++) {
                int spot = house * PLACES + place;
                if (guests[spot] == NONE) {
                    return spot;
                }
            }
            return NONE;
        }

        // ---- questions about one thing, string or house

        private static boolean isHand(int hand) {
            return hand >= 0 && hand < HANDS;
        }

        private static boolean isString(int string) {
            return string >= 0 && string < STRINGS;
        }

        boolean came(int thing) {
            return thing >= 0 && thing < THINGS && thing < comers;
        }

        boolean lives(int thing) {
            return thing >= 0 && thing < THINGS && spots[thing] != NONE;
        }

        int addressOf(int thing) {
            if (!lives(thing)) {
                return NONE;
            }
            return spots[thing] / PLACES * 10 + spots[thing] % PLACES;
        }

        int ageOf(int thing) {
            return lives(thing) ? ages[spots[thing] / PLACES] : NONE;
        }

        int movesOf(int thing) {
            return came(thing) ? movesByThing[thing] : 0;
        }

        int tiedAt(int thing, int string) {
            if (!came(thing) || !isString(string)) {
                return NONE;
            }
            return ties[thing * STRINGS + string];
        }

        boolean isNoted(int thing, int string) {
            int to = tiedAt(thing, string);
            return to != NONE && ageOf(to) < ageOf(thing);
        }

        /** The set of hands that hold a thing. */
        int handsOn(int thing) {
            int set = 0;
            for (int hand = 0; hand < HANDS; hand++) {
                if (hands[hand] == thing) {
                    set |= 1 << hand;
                }
            }
            return set;
        }

        /** The set of things of which a string is tied to a thing. */
        int tiedTo(int thing) {
            int set = 0;
            for (int from = 0; from < THINGS; from++) {
                for (int string = 0; string < STRINGS; string++) {
                    if (ties[from * STRINGS + string] == thing) {
                        set |= 1 << from;
                    }
                }
            }
            return set;
        }

        int thingsIn(int house) {
            int set = 0;
            if (house >= 0 && house < HOUSES) {
                for (int place = 0; place < PLACES; place++) {
                    int thing = guests[house * PLACES + place];
                    if (thing != NONE) {
                        set |= 1 << thing;
                    }
                }
            }
            return set;
        }

        // ---- numbers of all

        int fullHands() {
            int number = 0;
            for (int hand = 0; hand < HANDS; hand++) {
                if (hands[hand] != NONE) {
                    number++;
                }
            }
            return number;
        }

        int freeHouses() {
            int number = 0;
            for (int house = 0; house < HOUSES; house++) {
                if (ages[house] == NONE) {
                    number++;
                }
            }
            return number;
        }

        int notedStrings() {
            int number = 0;
            for (int thing = 0; thing < THINGS; thing++) {
                for (int string = 0; string < STRINGS; string++) {
                    if (isNoted(thing, string)) {
                        number++;
                    }
                }
            }
            return number;
        }

        // ---- sets of things

        int ageSet(int age) {
            return agesSet(age, age);
        }

        int livingSet() {
            return agesSet(0, AGES - 1);
        }

        /** The things that a winter of an age concerns. */
        int concernedSet(int age) {
            return agesSet(0, age);
        }

        private int agesSet(int lowest, int highest) {
            int set = 0;
            for (int thing = 0; thing < THINGS; thing++) {
                int spot = spots[thing];
                if (spot != NONE) {
                    int age = ages[spot / PLACES];
                    if (age >= lowest && age <= highest) {
                        set |= 1 << thing;
                    }
                }
            }
            return set;
        }

        /** The things that a hand holds or that are pinned. */
        int rootSet() {
            int set = pinned;
            for (int hand = 0; hand < HANDS; hand++) {
                if (hands[hand] != NONE) {
                    set |= 1 << hands[hand];
                }
            }
            return set;
        }

        int neededSet() {
            return reach(rootSet(), livingSet());
        }

        int survivingSet(int age) {
            int concerned = concernedSet(age);
            // Each string from an older thing to one that the winter concerns is noted.
            int noted = tiedFrom(livingSet() & ~concerned);
            return reach(rootSet() | noted, concerned);
        }

        /** The things to which strings of the things of a set are tied. */
        int tiedFrom(int set) {
            int tied = 0;
            for (int thing = 0; thing < THINGS; thing++) {
                if ((set >> thing & 1) != 0) {
                    for (int string = 0; string < STRINGS; string++) {
                        int to = ties[thing * STRINGS + string];
                        if (to != NONE) {
                            tied |= 1 << to;
                        }
                    }
                }
            }
            return tied;
        }

        /** Those of a first set, and those reached from them, all by things of another set alone. */
        int reach(int first, int within) {
            int reached = first & within;
            int fresh = reached;
            for (int step = 0; step < THINGS && fresh != 0; step++) {
                fresh = tiedFrom(fresh) & within & ~reached;
                reached |= fresh;
            }
            return reached;
        }
    }

    /** The text, and what was read of it last. */
    private static final class Orders {
        private static final int MALFORMED = 1;
        private static final int NO_SUCH = 2;
        private static final int OTHERWISE = 3;
        private static final int MOST_NUMBERS = 3;

        final int[] text = new int[TEXT_LENGTH];
        final int[] numbers = new int[MOST_NUMBERS];
        int length = 0;
        int position = 0;
        /** Where the order that was read last begins. */
        int start = 0;
        /** The reason of the fault of that order, 0 if it has none. */
        int reason = 0;

        int append(int character) {
            if (length >= TEXT_LENGTH) {
                return LIMIT_REACHED;
            }
            text[length] = character;
            length++;
            return length;
        }

        /** Does the orders up to the first one with a fault; returns how many were read. */
        int runOn(Village village) {
            int read = 0;
            position = 0;
            reason = 0;
            while (read < TEXT_LENGTH && position < length && reason == 0) {
                read++;
                start = position;
                int letter = peek();
                reason = readOrder(letter) ? reasonOf(carryOut(village, letter)) : MALFORMED;
            }
            return read;
        }

        /** Reads an order with its ";"; returns whether there is one. */
        private boolean readOrder(int letter) {
            int wanted = numbersOf(letter);
            if (wanted == NONE) {
                return false;
            }
            position++;
            for (int i = 0; i < wanted && i < MOST_NUMBERS; i++) {
                if (i > 0 && !skip(',')) {
                    return false;
                }
                int number = readNumber();
                if (number == NONE) {
                    return false;
                }
                numbers[i] = number;
            }
            return skip(';');
        }

        /** How many numbers an order has, by its letter. */
        private static int numbersOf(int letter) {
            switch (letter) {
                case 'n':
                case 'f':
                    return 0;
                case 'l':
                case 'p':
                case 'w':
                    return 1;
                case 'h':
                case 'u':
                    return 2;
                case 's':
                    return MOST_NUMBERS;
                default:
                    return NONE;
            }
        }

        private int readNumber() {
            if (!isDigit(peek())) {
                return NONE;
            }
            int number = peek() - '0';
            position++;
            if (isDigit(peek())) {
                number = 10 * number + peek() - '0';
                position++;
            }
            return number;
        }

        private int peek() {
            return position >= 0 && position < length && position < TEXT_LENGTH ? text[position] : NONE;
        }

        private boolean skip(int character) {
            if (peek() != character) {
                return false;
            }
            position++;
            return true;
        }

        private static boolean isDigit(int character) {
            return character >= '0' && character <= '9';
        }

        private int carryOut(Village village, int letter) {
            switch (letter) {
                case 'n':
                    return village.welcome();
                case 'h':
                    return village.grip(numbers[0], numbers[1]);
                case 'l':
                    return village.letGo(numbers[0]);
                case 's':
                    return village.fasten(numbers[0], numbers[1], numbers[2]);
                case 'u':
                    return village.slacken(numbers[0], numbers[1]);
                case 'p':
                    return village.setPin(numbers[0]);
                case 'w':
                    return village.passWinter(numbers[0]);
                default:
                    return village.turnFully();
            }
        }

        private static int reasonOf(int answer) {
            if (answer >= 0) {
                return 0;
            }
            return answer == INVALID_ARGUMENT ? NO_SUCH : OTHERWISE;
        }
    }
}
