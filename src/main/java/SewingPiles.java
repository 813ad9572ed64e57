/**
 * A sewing room in which an idle seamstress takes a shirt from the far end of another one's pile.
 *
 * <p>Every row that the object ever needs is made with it; no later call makes one.
 */
public final class SewingPiles {
    public static final int NONE = -1;

    private static final int MOST_SEAMSTRESSES = 6;
    private static final int MOST_SPEED = 9;
    private static final int MOST_SHIRTS = 120;
    private static final int MOST_WORK = 99;
    private static final int PILE_ROOM = 16;
    private static final int MOST_MINUTES = 99;
    private static final int MOST_SAVED = 6;
    private static final int BUFFER_ROOM = 60;
    private static final int FIRST_CODE = 33;
    private static final int LAST_CODE = 126;
    private static final int MOST_FORECAST_MINUTES = 200;
    private static final int LAST_DONE_MINUTE = 2000;

    private static final int DIVIDE_ABOVE = 0;
    private static final int PILE_CHOICE = 1;
    private static final int MISSES_TO_SLEEP = 2;
    private static final int SETTINGS = 3;
    private static final int[] LEAST_SETTINGS = {2, 0, 1};
    private static final int[] MOST_SETTINGS = {99, 2, 20};

    private static final int ON_PILE = 0;
    private static final int IN_HAND = 1;
    private static final int SEWN = 2;

    private static final int SEAMSTRESS_NUMBERS = 10;
    private static final int SHIRT_NUMBERS = 3;
    private static final int COUNTS = 12;
    private static final int FORECASTS = 4;

    private final Room room = new Room();
    private final Room snapshot = new Room();
    private final Room trial = new Room();
    private final History history = new History();
    private final OrderText text = new OrderText();
    private boolean hasSnapshot;

    public SewingPiles() {
    }

    // ---- seamstresses, shirts

    public int hire(int speed) throws IllegalArgumentException, IllegalStateException {
        checkSpeed(speed);
        if (room.staff >= MOST_SEAMSTRESSES) {
            throw new IllegalStateException("there are 6 seamstresses");
        }
        history.save(room);
        return room.addSeamstress(speed);
    }

    public int speed(int who, int speed) throws IndexOutOfBoundsException, IllegalArgumentException {
        checkSeamstress(who);
        checkSpeed(speed);
        history.save(room);
        return room.changeSpeed(who, speed);
    }

    public int lay(int who, int work)
            throws IndexOutOfBoundsException, IllegalArgumentException, IllegalStateException {
        checkSeamstress(who);
        if (work < 1 || work > MOST_WORK) {
            throw new IllegalArgumentException("work is out of range");
        }
        if (!room.canLayOnto(who)) {
            throw new IllegalStateException("the pile is full, or all shirts came");
        }
        history.save(room);
        return room.layNewShirt(who, work);
    }

    public int wake(int who) throws IndexOutOfBoundsException {
        checkSeamstress(who);
        history.save(room);
        return room.rouse(who);
    }

    public int pass(int minutes) throws IllegalArgumentException {
        if (minutes < 1 || minutes > MOST_MINUTES) {
            throw new IllegalArgumentException("minutes is out of range");
        }
        history.save(room);
        int before = room.sewnShirts();
        room.passMinutes(minutes);
        return room.sewnShirts() - before;
    }

    public int set(int setting, int value) throws IndexOutOfBoundsException, IllegalArgumentException {
        checkSetting(setting);
        if (value < LEAST_SETTINGS[setting] || value > MOST_SETTINGS[setting]) {
            throw new IllegalArgumentException("value is out of range");
        }
        history.save(room);
        int previous = room.settings[setting];
        room.settings[setting] = value;
        return previous;
    }

    // ---- texts, the snapshot

    public int append(int code) throws IllegalArgumentException, IllegalStateException {
        if (code < FIRST_CODE || code > LAST_CODE) {
            throw new IllegalArgumentException("code is not 33 to 126");
        }
        if (text.length >= BUFFER_ROOM) {
            throw new IllegalStateException("the buffer is full");
        }
        text.add(code);
        return text.length;
    }

    public int clearBuffer() {
        return text.empty();
    }

    public int firstError() {
        return text.indexOfError();
    }

    public int obey() throws IllegalArgumentException {
        if (!text.isComplete()) {
            throw new IllegalArgumentException("the buffer is not complete orders");
        }
        history.save(room);
        int done = 0;
        for (int index = 0; index < text.length; index++) {
            if (text.startsPart(index)) {
                if (!doPart(index)) {
                    break;
                }
                done++;
            }
        }
        text.empty();
        return done;
    }

    public int keep() {
        snapshot.copyFrom(room);
        hasSnapshot = true;
        return room.minutes;
    }

    public int goBack() throws IllegalStateException {
        if (!hasSnapshot) {
            throw new IllegalStateException("there is no snapshot");
        }
        history.save(room);
        room.copyFrom(snapshot);
        return room.minutes;
    }

    public int undo() throws IllegalStateException {
        if (history.count == 0) {
            throw new IllegalStateException("there is no saved state");
        }
        history.restoreLatest(room);
        return history.count;
    }

    // ---- looks; nothing is changed

    public int seamstress(int who, int what) throws IndexOutOfBoundsException, IllegalArgumentException {
        checkSeamstress(who);
        if (what < 0 || what >= SEAMSTRESS_NUMBERS) {
            throw new IllegalArgumentException("what is not 0 to 9");
        }
        return room.seamstressNumber(who, what);
    }

    public int pile(int who, int place) throws IndexOutOfBoundsException, IllegalArgumentException {
        checkSeamstress(who);
        if (place < 0) {
            throw new IllegalArgumentException("place is below 0");
        }
        return room.piles.at(who, place);
    }

    public int shirt(int shirt, int what) throws IndexOutOfBoundsException, IllegalArgumentException {
        if (shirt < 0 || shirt >= room.shirts.came) {
            throw new IndexOutOfBoundsException("there was no such shirt so far");
        }
        if (what < 0 || what >= SHIRT_NUMBERS) {
            throw new IllegalArgumentException("what is not 0 to 2");
        }
        return room.shirts.number(shirt, what);
    }

    public int count(int what) throws IllegalArgumentException {
        if (what < 0 || what >= COUNTS) {
            throw new IllegalArgumentException("what is not 0 to 11");
        }
        return what == COUNTS - 1 ? history.count : room.countedNumber(what);
    }

    public int setting(int setting) throws IndexOutOfBoundsException {
        checkSetting(setting);
        return room.settings[setting];
    }

    public int choice(int who) throws IndexOutOfBoundsException {
        checkSeamstress(who);
        return room.chosenPile(who);
    }

    // ---- what would be, if nothing else is done; nothing is changed

    public int doneIn() {
        trial.copyFrom(room);
        return trial.minutesUntilDone(true);
    }

    public int doneAlone() {
        trial.copyFrom(room);
        return trial.minutesUntilDone(false);
    }

    public int doneWith(int speed) throws IllegalArgumentException {
        checkSpeed(speed);
        trial.copyFrom(room);
        trial.addSeamstress(speed);
        return trial.minutesUntilDone(true);
    }

    public int ifPassed(int minutes, int what) throws IllegalArgumentException {
        if (minutes < 1 || minutes > MOST_FORECAST_MINUTES || what < 0 || what >= FORECASTS) {
            throw new IllegalArgumentException("an argument is out of range");
        }
        trial.copyFrom(room);
        trial.passMinutes(minutes);
        switch (what) {
            case 0:
                return trial.sewnShirts() - room.sewnShirts();
            case 1:
                return trial.total(trial.takenFromOthers) - room.total(room.takenFromOthers);
            case 2:
                return trial.total(trial.allMisses) - room.total(room.allMisses);
            default:
                return trial.shirts.workLeft();
        }
    }

    public double takenShare() {
        if (room.taken == 0) {
            return 0.0;
        }
        return (double) room.total(room.takenFromOthers) / room.taken;
    }

    public float evenness() {
        int least = room.load(0);
        int greatest = least;
        for (int who = 1; who < room.staff; who++) {
            int load = room.load(who);
            least = load < least ? load : least;
            greatest = load > greatest ? load : greatest;
        }
        return greatest == 0 ? 1.0f : (float) least / greatest;
    }

    public long digest() {
        long hash = 3319;
        for (int what = 0; what < COUNTS; what++) {
            hash = 31 * hash + count(what);
        }
        for (int setting = 0; setting < SETTINGS; setting++) {
            hash = 31 * hash + setting(setting);
        }
        hash = addSeamstresses(hash);
        hash = addShirts(hash);
        hash = 31 * hash + doneIn();
        hash = 31 * hash + doneAlone();
        hash = 31 * hash + doneWith(1);
        hash = 31 * hash + doneWith(9);
        for (int what = 0; what < FORECASTS; what++) {
            hash = 31 * hash + ifPassed(10, what);
        }
        hash = 31 * hash + bitsOfDouble(takenShare());
        hash = 31 * hash + bitsOfFloat(evenness());
        hash = 31 * hash + (hasSnapshot ? 1 : 0);
        return addText(hash);
    }

    private long addSeamstresses(long start) {
        long hash = start;
        for (int who = 0; who < room.staff; who++) {
            for (int what = 0; what < SEAMSTRESS_NUMBERS; what++) {
                hash = 31 * hash + seamstress(who, what);
            }
            int height = room.piles.height(who);
            for (int place = 0; place < height; place++) {
                hash = 31 * hash + pile(who, place);
            }
            hash = 31 * hash + choice(who);
        }
        return hash;
    }

    private long addShirts(long start) {
        long hash = start;
        for (int shirt = 0; shirt < room.shirts.came; shirt++) {
            for (int what = 0; what < SHIRT_NUMBERS; what++) {
                hash = 31 * hash + shirt(shirt, what);
            }
        }
        return hash;
    }

    private long addText(long start) {
        long hash = 31 * start + text.length;
        for (int index = 0; index < text.length; index++) {
            hash = 31 * hash + text.codeAt(index);
        }
        return hash;
    }

    // The library that the program may use has no bits of a double, so they are made here from
    // the binary exponent and the fraction. A share lies between 0 and 1 and is never very small.
    private static long bitsOfDouble(double share) {
        if (!(share > 0.0)) {
            return 0L;
        }
        double scaled = share;
        int exponent = 1023;
        while (scaled < 1.0 && exponent > 1) {
            scaled = scaled * 2.0;
            exponent--;
        }
        long fraction = (long) ((scaled - 1.0) * 4503599627370496.0);
        return ((long) exponent << 52) + fraction;
    }

    private static int bitsOfFloat(float share) {
        if (!(share > 0.0f)) {
            return 0;
        }
        float scaled = share;
        int exponent = 127;
        while (scaled < 1.0f && exponent > 1) {
            scaled = scaled * 2.0f;
            exponent--;
        }
        int fraction = (int) ((scaled - 1.0f) * 8388608.0f);
        return (exponent << 23) + fraction;
    }

    private void checkSeamstress(int who) {
        if (!room.hasSeamstress(who)) {
            throw new IndexOutOfBoundsException("there is no such seamstress");
        }
    }

    private static void checkSpeed(int speed) {
        if (speed < 1 || speed > MOST_SPEED) {
            throw new IllegalArgumentException("speed is out of range");
        }
    }

    private static void checkSetting(int setting) {
        if (setting < 0 || setting >= SETTINGS) {
            throw new IndexOutOfBoundsException("there is no such setting");
        }
    }

    /** Does the order that begins there; false, and nothing done, if its method would throw. */
    private boolean doPart(int start) {
        int kind = text.codeAt(start);
        if (kind == 'm') {
            room.passMinutes(text.numberAt(start + 1));
            return true;
        }
        int who = text.codeAt(start + 1) - '0';
        if (!room.hasSeamstress(who)) {
            return false;
        }
        if (kind == 'w') {
            room.rouse(who);
            return true;
        }
        if (kind == 'v') {
            room.changeSpeed(who, text.numberAt(start + 2));
            return true;
        }
        if (!room.canLayOnto(who)) {
            return false;
        }
        room.layNewShirt(who, text.numberAt(start + 3));
        return true;
    }

    /** The states that undo() restores, the oldest one first. */
    private static final class History {
        private final Room[] states = new Room[MOST_SAVED];
        private int count;

        History() {
            for (int index = 0; index < MOST_SAVED; index++) {
                states[index] = new Room();
            }
        }

        void save(Room room) {
            if (count >= MOST_SAVED) {
                dropOldest();
            }
            Room free = states[count];
            if (free != null) {
                free.copyFrom(room);
                count++;
            }
        }

        void restoreLatest(Room room) {
            if (count < 1 || count > MOST_SAVED) {
                return;
            }
            count--;
            Room latest = states[count];
            if (latest != null) {
                room.copyFrom(latest);
            }
        }

        // The dropped state's rows go to the end, to be written over by the next one.
        private void dropOldest() {
            Room oldest = states[0];
            for (int index = 1; index < MOST_SAVED; index++) {
                states[index - 1] = states[index];
            }
            states[MOST_SAVED - 1] = oldest;
            count = MOST_SAVED - 1;
        }
    }

    /** The buffer, and what its characters mean. */
    private static final class OrderText {
        private static final int PART_START = 0;
        private static final int LAY_WHO = 1;
        private static final int LAY_DOT = 2;
        private static final int FIRST_DIGIT = 3;
        private static final int SECOND_DIGIT = 4;
        private static final int SPEED_WHO = 5;
        private static final int SPEED_DIGIT = 6;
        private static final int WAKE_WHO = 7;
        private static final int PART_END = 8;

        private final char[] codes = new char[BUFFER_ROOM];
        private int length;

        void add(int code) {
            if (length < BUFFER_ROOM) {
                codes[length] = (char) code;
                length++;
            }
        }

        int empty() {
            int previous = length;
            length = 0;
            return previous;
        }

        /** The code at an index, 0 where there is none. */
        int codeAt(int index) {
            return index >= 0 && index < length ? codes[index] : 0;
        }

        int indexOfError() {
            int state = PART_START;
            for (int index = 0; index < length; index++) {
                state = stateBehind(state, codes[index]);
                if (state == NONE) {
                    return index;
                }
            }
            return length;
        }

        boolean isComplete() {
            int state = PART_START;
            for (int index = 0; index < length; index++) {
                state = stateBehind(state, codes[index]);
            }
            return state == SECOND_DIGIT || state == PART_END;
        }

        boolean startsPart(int index) {
            return index == 0 || codeAt(index - 1) == ';';
        }

        /** The number of one or two digits that begins there. */
        int numberAt(int index) {
            int number = codeAt(index) - '0';
            int second = codeAt(index + 1);
            return isFrom('0', second, '9') ? 10 * number + second - '0' : number;
        }

        /** What may follow a character that was read in a state; NONE if it is an error. */
        private static int stateBehind(int state, int code) {
            switch (state) {
                case PART_START:
                    return stateBehindKind(code);
                case LAY_WHO:
                    return isFrom('0', code, '5') ? LAY_DOT : NONE;
                case LAY_DOT:
                    return code == '.' ? FIRST_DIGIT : NONE;
                case FIRST_DIGIT:
                    return isFrom('1', code, '9') ? SECOND_DIGIT : NONE;
                case SECOND_DIGIT:
                    return isFrom('0', code, '9') ? PART_END : stateBehindPart(code);
                case SPEED_WHO:
                    return isFrom('0', code, '5') ? SPEED_DIGIT : NONE;
                case SPEED_DIGIT:
                    return isFrom('1', code, '9') ? PART_END : NONE;
                case WAKE_WHO:
                    return isFrom('0', code, '5') ? PART_END : NONE;
                case PART_END:
                    return stateBehindPart(code);
                default:
                    return NONE;
            }
        }

        private static int stateBehindKind(int code) {
            switch (code) {
                case 'l':
                    return LAY_WHO;
                case 'v':
                    return SPEED_WHO;
                case 'w':
                    return WAKE_WHO;
                case 'm':
                    return FIRST_DIGIT;
                default:
                    return NONE;
            }
        }

        private static int stateBehindPart(int code) {
            return code == ';' ? PART_START : NONE;
        }

        private static boolean isFrom(int least, int code, int most) {
            return code >= least && code <= most;
        }
    }

    /** The piles of all seats; place 0 is the far end. */
    private static final class Piles {
        private final int[] heights = new int[Room.SEATS];
        private final int[][] places = new int[Room.SEATS][PILE_ROOM];

        void copyFrom(Piles other) {
            for (int who = 0; who < Room.SEATS; who++) {
                heights[who] = other.heights[who];
                for (int place = 0; place < PILE_ROOM; place++) {
                    places[who][place] = other.places[who][place];
                }
            }
        }

        int height(int who) {
            return who >= 0 && who < Room.SEATS ? heights[who] : 0;
        }

        /** The shirt at a place, NONE if there are not so many. */
        int at(int who, int place) {
            if (who < 0 || who >= Room.SEATS || place < 0 || place >= PILE_ROOM) {
                return NONE;
            }
            return place < heights[who] ? places[who][place] : NONE;
        }

        void putNear(int who, int shirt) {
            if (who < 0 || who >= Room.SEATS) {
                return;
            }
            int height = heights[who];
            if (height >= 0 && height < PILE_ROOM) {
                places[who][height] = shirt;
                heights[who] = height + 1;
            }
        }

        /** Takes the shirt at the near end away, and returns it; NONE if there is none. */
        int takeNear(int who) {
            if (who < 0 || who >= Room.SEATS) {
                return NONE;
            }
            int last = heights[who] - 1;
            if (last < 0 || last >= PILE_ROOM) {
                return NONE;
            }
            heights[who] = last;
            return places[who][last];
        }

        /** Takes the shirt at the far end away, and returns it; NONE if there is none. */
        int takeFar(int who) {
            if (who < 0 || who >= Room.SEATS || heights[who] < 1) {
                return NONE;
            }
            int shirt = places[who][0];
            for (int place = 1; place < PILE_ROOM; place++) {
                places[who][place - 1] = places[who][place];
            }
            heights[who]--;
            return shirt;
        }
    }

    /** All shirts that came, by their numbers. */
    private static final class Shirts {
        private int came;
        private final int[] work = new int[MOST_SHIRTS];
        private final int[] where = new int[MOST_SHIRTS];
        private final int[] whose = new int[MOST_SHIRTS];

        void copyFrom(Shirts other) {
            came = other.came;
            for (int shirt = 0; shirt < came && shirt < MOST_SHIRTS; shirt++) {
                work[shirt] = other.work[shirt];
                where[shirt] = other.where[shirt];
                whose[shirt] = other.whose[shirt];
            }
        }

        boolean has(int shirt) {
            return shirt >= 0 && shirt < came && shirt < MOST_SHIRTS;
        }

        /** A new shirt that lies on her pile; NONE if all shirts came. */
        int add(int who, int amount) {
            if (came < 0 || came >= MOST_SHIRTS) {
                return NONE;
            }
            work[came] = amount;
            where[came] = ON_PILE;
            whose[came] = who;
            came++;
            return came - 1;
        }

        // Written out instead of has(), for the calls stay at most eight deep.
        int workOf(int shirt) {
            return shirt >= 0 && shirt < came && shirt < MOST_SHIRTS ? work[shirt] : 0;
        }

        void setWork(int shirt, int amount) {
            if (has(shirt)) {
                work[shirt] = amount;
            }
        }

        void move(int shirt, int place, int who) {
            if (has(shirt)) {
                where[shirt] = place;
                whose[shirt] = who;
            }
        }

        int number(int shirt, int what) {
            if (!has(shirt)) {
                return NONE;
            }
            switch (what) {
                case 0:
                    return work[shirt];
                case 1:
                    return where[shirt];
                default:
                    return whose[shirt];
            }
        }

        int workLeft() {
            int left = 0;
            for (int shirt = 0; shirt < came && shirt < MOST_SHIRTS; shirt++) {
                left += work[shirt];
            }
            return left;
        }
    }

    /** The state that undo() restores, and how a minute changes it. */
    private static final class Room {
        // doneWith() tries one seamstress more, also if there are 6.
        private static final int SEATS = MOST_SEAMSTRESSES + 1;

        private int minutes;
        private int staff = 2;
        private int taken;
        private int divisions;
        private final int[] settings = {20, 0, 3};
        private final int[] speeds = new int[SEATS];
        private final int[] hands = new int[SEATS];
        private final int[] misses = new int[SEATS];
        private final boolean[] asleep = new boolean[SEATS];
        private final int[] sewn = new int[SEATS];
        private final int[] takenFromOthers = new int[SEATS];
        private final int[] minutesSlept = new int[SEATS];
        private final int[] allMisses = new int[SEATS];
        private final Piles piles = new Piles();
        private final Shirts shirts = new Shirts();

        Room() {
            for (int who = 0; who < SEATS; who++) {
                speeds[who] = 1;
                hands[who] = NONE;
            }
        }

        void copyFrom(Room other) {
            minutes = other.minutes;
            staff = other.staff;
            taken = other.taken;
            divisions = other.divisions;
            for (int setting = 0; setting < SETTINGS; setting++) {
                settings[setting] = other.settings[setting];
            }
            for (int who = 0; who < SEATS; who++) {
                speeds[who] = other.speeds[who];
                hands[who] = other.hands[who];
                misses[who] = other.misses[who];
                asleep[who] = other.asleep[who];
                sewn[who] = other.sewn[who];
                takenFromOthers[who] = other.takenFromOthers[who];
                minutesSlept[who] = other.minutesSlept[who];
                allMisses[who] = other.allMisses[who];
            }
            piles.copyFrom(other.piles);
            shirts.copyFrom(other.shirts);
        }

        boolean hasSeamstress(int who) {
            return who >= 0 && who < staff && who < SEATS;
        }

        int addSeamstress(int speed) {
            if (staff < 0 || staff >= SEATS) {
                return NONE;
            }
            speeds[staff] = speed;
            staff++;
            return staff - 1;
        }

        int changeSpeed(int who, int speed) {
            if (!hasSeamstress(who)) {
                return NONE;
            }
            int previous = speeds[who];
            speeds[who] = speed;
            return previous;
        }

        /** Wakes her; 1 if she was asleep. */
        int rouse(int who) {
            if (!hasSeamstress(who)) {
                return NONE;
            }
            int wasAsleep = asleep[who] ? 1 : 0;
            asleep[who] = false;
            misses[who] = 0;
            return wasAsleep;
        }

        boolean canLayOnto(int who) {
            return piles.height(who) < PILE_ROOM && shirts.came < MOST_SHIRTS;
        }

        int layNewShirt(int who, int work) {
            int shirt = shirts.add(who, work);
            piles.putNear(who, shirt);
            wakeFirstSleeper();
            return shirt;
        }

        private void wakeFirstSleeper() {
            for (int who = 0; who < staff && who < SEATS; who++) {
                if (asleep[who]) {
                    asleep[who] = false;
                    misses[who] = 0;
                    return;
                }
            }
        }

        void passMinutes(int count) {
            for (int minute = 0; minute < count; minute++) {
                passMinute(true);
            }
        }

        private void passMinute(boolean sharing) {
            for (int who = 0; who < staff && who < SEATS; who++) {
                int shirt = act(who, sharing);
                if (shirt != NONE) {
                    takeIntoHand(who, shirt);
                }
            }
            minutes++;
        }

        /** Does what she does in a minute, but for the taking: returns the shirt to take, or NONE. */
        private int act(int who, boolean sharing) {
            if (!hasSeamstress(who)) {
                return NONE;
            }
            if (asleep[who]) {
                minutesSlept[who]++;
                return NONE;
            }
            if (hands[who] != NONE) {
                sew(who);
                return NONE;
            }
            if (piles.height(who) > 0) {
                return piles.takeNear(who);
            }
            int other = sharing ? chosenPile(who) : NONE;
            if (other != NONE) {
                takenFromOthers[who]++;
                return piles.takeFar(other);
            }
            miss(who);
            return NONE;
        }

        private void sew(int who) {
            if (!hasSeamstress(who)) {
                return;
            }
            int shirt = hands[who];
            int left = shirts.workOf(shirt) - speeds[who];
            shirts.setWork(shirt, left > 0 ? left : 0);
            if (left <= 0) {
                shirts.move(shirt, SEWN, who);
                hands[who] = NONE;
                sewn[who]++;
            }
        }

        private void miss(int who) {
            if (!hasSeamstress(who)) {
                return;
            }
            allMisses[who]++;
            misses[who]++;
            if (misses[who] >= settings[MISSES_TO_SLEEP]) {
                asleep[who] = true;
                misses[who] = 0;
            }
        }

        private void takeIntoHand(int who, int shirt) {
            if (!hasSeamstress(who)) {
                return;
            }
            hands[who] = shirt;
            misses[who] = 0;
            taken++;
            shirts.move(shirt, IN_HAND, who);
            int work = shirts.workOf(shirt);
            if (work > settings[DIVIDE_ABOVE] && shirts.came < MOST_SHIRTS) {
                int half = work / 2;
                shirts.setWork(shirt, work - half);
                divisions++;
                layNewShirt(who, half);
            }
        }

        /** The seamstress from whose pile she would take by rule 4, NONE if there is none. */
        int chosenPile(int who) {
            int best = NONE;
            int bestMerit = 0;
            for (int other = 0; other < staff && other < SEATS; other++) {
                if (other != who && canBeTakenFrom(other)) {
                    int merit = merit(who, other);
                    if (best == NONE || merit > bestMerit) {
                        best = other;
                        bestMerit = merit;
                    }
                }
            }
            return best;
        }

        private boolean canBeTakenFrom(int other) {
            if (!hasSeamstress(other)) {
                return false;
            }
            int height = piles.height(other);
            return height >= 2 || height == 1 && (asleep[other] || hands[other] != NONE);
        }

        private int merit(int who, int other) {
            switch (settings[PILE_CHOICE]) {
                case 0:
                    return piles.height(other);
                case 1:
                    return other > who ? staff - (other - who) : who - other;
                default:
                    return shirts.workOf(piles.at(other, 0));
            }
        }

        /** Behind how many minutes all shirts are sewn, NONE if not within 2000. */
        int minutesUntilDone(boolean sharing) {
            for (int minute = 0; minute <= LAST_DONE_MINUTE; minute++) {
                if (sewnShirts() == shirts.came) {
                    return minute;
                }
                // Sleepers wake only by a laying, and sleepers lay nothing.
                if (sleepers() == staff) {
                    return NONE;
                }
                passMinute(sharing);
            }
            return NONE;
        }

        int seamstressNumber(int who, int what) {
            if (!hasSeamstress(who)) {
                return NONE;
            }
            switch (what) {
                case 0:
                    return speeds[who];
                case 1:
                    return piles.height(who);
                case 2:
                    return hands[who];
                case 3:
                    return misses[who];
                case 4:
                    return asleep[who] ? 1 : 0;
                case 5:
                    return sewn[who];
                case 6:
                    return takenFromOthers[who];
                case 7:
                    return minutesSlept[who];
                case 8:
                    return allMisses[who];
                default:
                    return load(who);
            }
        }

        /** The number that count() tells, but for the saved states. */
        int countedNumber(int what) {
            switch (what) {
                case 0:
                    return minutes;
                case 1:
                    return staff;
                case 2:
                    return shirts.came;
                case 3:
                    return sewnShirts();
                case 4:
                    return total(piles.heights);
                case 5:
                    return fullHands();
                case 6:
                    return total(takenFromOthers);
                case 7:
                    return total(allMisses);
                case 8:
                    return divisions;
                case 9:
                    return sleepers();
                default:
                    return shirts.workLeft();
            }
        }

        /** The work on her pile and in her hand. */
        int load(int who) {
            if (!hasSeamstress(who)) {
                return 0;
            }
            int load = shirts.workOf(hands[who]);
            for (int place = 0; place < PILE_ROOM; place++) {
                load += shirts.workOf(piles.at(who, place));
            }
            return load;
        }

        int sewnShirts() {
            return total(sewn);
        }

        private int fullHands() {
            int full = 0;
            for (int who = 0; who < staff && who < SEATS; who++) {
                if (hands[who] != NONE) {
                    full++;
                }
            }
            return full;
        }

        private int sleepers() {
            int sleepers = 0;
            for (int who = 0; who < staff && who < SEATS; who++) {
                if (asleep[who]) {
                    sleepers++;
                }
            }
            return sleepers;
        }

        /** The sum of a row with a number for each seamstress. */
        int total(int[] row) {
            int sum = 0;
            if (row != null) {
                for (int who = 0; who < staff && who < row.length; who++) {
                    sum += row[who];
                }
            }
            return sum;
        }
    }
}
