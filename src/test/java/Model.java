import java.util.ArrayDeque;
import java.util.ArrayList;
import java.util.Deque;
import java.util.List;
import java.util.regex.Matcher;
import java.util.regex.Pattern;

/** The document told a second time, in lists and copies, for ModelTest to compare with. */
final class Model {
    static final class Shirt {
        int number;
        int work;
        int where;
        int whose;
    }

    static final class Woman {
        int speed;
        Deque<Shirt> pile = new ArrayDeque<>(); // first: near end, last: far end
        Shirt hand;
        int row;
        boolean asleep;
        int sewed;
        int took;
        int slept;
        int missed;

        int load() {
            int load = hand == null ? 0 : hand.work;
            for (Shirt shirt : pile) {
                load += shirt.work;
            }
            return load;
        }

        boolean givesAway() {
            return pile.size() > 1 || pile.size() == 1 && (asleep || hand != null);
        }
    }

    static final class World {
        List<Woman> women = new ArrayList<>();
        List<Shirt> shirts = new ArrayList<>();
        int[] settings = {20, 0, 3};
        int minutes;
        int takings;
        int divisions;

        World copy() {
            World copy = new World();
            for (Shirt shirt : shirts) {
                Shirt twin = new Shirt();
                twin.number = shirt.number;
                twin.work = shirt.work;
                twin.where = shirt.where;
                twin.whose = shirt.whose;
                copy.shirts.add(twin);
            }
            for (Woman woman : women) {
                Woman twin = copy.come(woman.speed);
                woman.pile.forEach(shirt -> twin.pile.addLast(copy.shirts.get(shirt.number)));
                twin.hand = woman.hand == null ? null : copy.shirts.get(woman.hand.number);
                twin.row = woman.row;
                twin.asleep = woman.asleep;
                twin.sewed = woman.sewed;
                twin.took = woman.took;
                twin.slept = woman.slept;
                twin.missed = woman.missed;
            }
            copy.settings = settings.clone();
            copy.minutes = minutes;
            copy.takings = takings;
            copy.divisions = divisions;
            return copy;
        }

        Woman come(int speed) {
            Woman woman = new Woman();
            woman.speed = speed;
            women.add(woman);
            return woman;
        }

        void lay(int who, int work) {
            Shirt shirt = new Shirt();
            shirt.number = shirts.size();
            shirt.work = work;
            shirt.whose = who;
            shirts.add(shirt);
            women.get(who).pile.addFirst(shirt);
            women.stream().filter(woman -> woman.asleep).findFirst().ifPresent(woman -> {
                woman.asleep = false;
                woman.row = 0;
            });
        }

        int chosen(int who) {
            List<Integer> givers = new ArrayList<>();
            for (int step = 1; step < women.size(); step++) {
                int other = (who + step) % women.size();
                if (women.get(other).givesAway()) {
                    givers.add(other);
                }
            }
            if (givers.isEmpty()) {
                return -1;
            }
            if (settings[1] == 1) {
                return givers.get(0);
            }
            givers.sort((a, b) -> merit(a) != merit(b) ? merit(b) - merit(a) : a - b);
            return givers.get(0);
        }

        int merit(int other) {
            Deque<Shirt> pile = women.get(other).pile;
            return settings[1] == 0 ? pile.size() : pile.peekLast().work;
        }

        void minute(boolean sharing) {
            for (int who = 0; who < women.size(); who++) {
                Woman she = women.get(who);
                int from = sharing ? chosen(who) : -1;
                if (she.asleep) {
                    she.slept++;
                } else if (she.hand != null) {
                    sew(who, she);
                } else if (!she.pile.isEmpty()) {
                    take(who, she.pile.removeFirst());
                } else if (from >= 0) {
                    she.took++;
                    take(who, women.get(from).pile.removeLast());
                } else {
                    she.missed++;
                    she.row++;
                    if (she.row >= settings[2]) {
                        she.asleep = true;
                        she.row = 0;
                    }
                }
            }
            minutes++;
        }

        void sew(int who, Woman she) {
            she.hand.work = Math.max(0, she.hand.work - she.speed);
            if (she.hand.work == 0) {
                she.hand.where = 2;
                she.sewed++;
                she.hand = null;
            }
        }

        void take(int who, Shirt shirt) {
            Woman she = women.get(who);
            she.hand = shirt;
            she.row = 0;
            takings++;
            shirt.where = 1;
            shirt.whose = who;
            if (shirt.work > settings[0] && shirts.size() < 120) {
                int half = shirt.work / 2;
                shirt.work -= half;
                divisions++;
                lay(who, half);
            }
        }

        void pass(int count) {
            for (int i = 0; i < count; i++) {
                minute(true);
            }
        }

        int sewn() {
            return (int) shirts.stream().filter(shirt -> shirt.where == 2).count();
        }

        int taken() {
            return women.stream().mapToInt(woman -> woman.took).sum();
        }

        int missed() {
            return women.stream().mapToInt(woman -> woman.missed).sum();
        }

        int left() {
            return shirts.stream().mapToInt(shirt -> shirt.work).sum();
        }

        int done(boolean sharing) {
            for (int minute = 0; minute <= 2000; minute++) {
                if (sewn() == shirts.size()) {
                    return minute;
                }
                minute(sharing);
            }
            return -1;
        }
    }

    private static final String PART = "(?:l[0-5]\\.[1-9][0-9]?|v[0-5][1-9]|w[0-5]|m[1-9][0-9]?)";
    private static final Pattern TEXT = Pattern.compile(PART + "(?:;" + PART + ")*");
    private static final Pattern ORDER = Pattern.compile("([lvwm])(\\d)?\\.?(\\d*)");

    private World world = new World();
    private World kept;
    private final Deque<World> saved = new ArrayDeque<>();
    private String text = "";

    Model() {
        world.come(1);
        world.come(1);
    }

    private void save() {
        saved.push(world.copy());
        if (saved.size() > 6) {
            saved.removeLast();
        }
    }

    private Woman woman(int who) {
        need(who >= 0 && who < world.women.size());
        return world.women.get(who);
    }

    private static void need(boolean holds) {
        if (!holds) {
            throw new IndexOutOfBoundsException();
        }
    }

    private static void argument(int value, int least, int most) {
        if (value < least || value > most) {
            throw new IllegalArgumentException();
        }
    }

    private static void state(boolean holds) {
        if (!holds) {
            throw new IllegalStateException();
        }
    }

    long hire(int speed) {
        argument(speed, 1, 9);
        state(world.women.size() < 6);
        save();
        world.come(speed);
        return world.women.size() - 1;
    }

    long speed(int who, int speed) {
        Woman she = woman(who);
        argument(speed, 1, 9);
        save();
        int previous = she.speed;
        she.speed = speed;
        return previous;
    }

    long lay(int who, int work) {
        Woman she = woman(who);
        argument(work, 1, 99);
        state(she.pile.size() < 16 && world.shirts.size() < 120);
        save();
        world.lay(who, work);
        return world.shirts.size() - 1;
    }

    long wake(int who) {
        Woman she = woman(who);
        save();
        boolean was = she.asleep;
        she.asleep = false;
        she.row = 0;
        return was ? 1 : 0;
    }

    long pass(int minutes) {
        argument(minutes, 1, 99);
        save();
        int before = world.sewn();
        world.pass(minutes);
        return world.sewn() - before;
    }

    long set(int setting, int value) {
        long previous = setting(setting);
        argument(value, new int[] {2, 0, 1}[setting], new int[] {99, 2, 20}[setting]);
        save();
        world.settings[setting] = value;
        return previous;
    }

    long append(int code) {
        argument(code, 33, 126);
        state(text.length() < 60);
        text += (char) code;
        return text.length();
    }

    long clearBuffer() {
        int length = text.length();
        text = "";
        return length;
    }

    boolean hasNoText() {
        return text.isEmpty();
    }

    /** An error is where no continuation matches: hitEnd() tells whether more characters could help. */
    long firstError() {
        for (int length = 1; length <= text.length(); length++) {
            Matcher matcher = TEXT.matcher(text.substring(0, length));
            if (!matcher.matches() && !matcher.hitEnd()) {
                return length - 1;
            }
        }
        return text.length();
    }

    long obey() {
        if (!TEXT.matcher(text).matches()) {
            throw new IllegalArgumentException();
        }
        World before = world.copy();
        List<World> states = new ArrayList<>(saved);
        int done = 0;
        for (String part : text.split(";")) {
            try {
                obeyPart(part);
                done++;
            } catch (IndexOutOfBoundsException | IllegalStateException e) {
                break;
            }
        }
        saved.clear();
        states.forEach(saved::addLast);
        World now = world;
        world = before;
        save();
        world = now;
        text = "";
        return done;
    }

    private void obeyPart(String part) {
        if (part.charAt(0) == 'm') {
            pass(Integer.parseInt(part.substring(1)));
            return;
        }
        Matcher order = ORDER.matcher(part);
        order.matches();
        int who = Integer.parseInt(order.group(2));
        switch (part.charAt(0)) {
            case 'l':
                lay(who, Integer.parseInt(order.group(3)));
                break;
            case 'v':
                speed(who, Integer.parseInt(order.group(3)));
                break;
            default:
                wake(who);
        }
    }

    long keep() {
        kept = world.copy();
        return world.minutes;
    }

    long goBack() {
        state(kept != null);
        save();
        world = kept.copy();
        return world.minutes;
    }

    long undo() {
        state(!saved.isEmpty());
        world = saved.pop();
        return saved.size();
    }

    long seamstress(int who, int what) {
        Woman she = woman(who);
        argument(what, 0, 9);
        return new int[] {she.speed, she.pile.size(), she.hand == null ? -1 : she.hand.number, she.row,
            she.asleep ? 1 : 0, she.sewed, she.took, she.slept, she.missed, she.load()}[what];
    }

    long pile(int who, int place) {
        Woman she = woman(who);
        argument(place, 0, Integer.MAX_VALUE);
        List<Shirt> pile = new ArrayList<>(she.pile);
        return place < pile.size() ? pile.get(pile.size() - 1 - place).number : -1;
    }

    long shirt(int shirt, int what) {
        need(shirt >= 0 && shirt < world.shirts.size());
        argument(what, 0, 2);
        Shirt it = world.shirts.get(shirt);
        return new int[] {it.work, it.where, it.whose}[what];
    }

    long count(int what) {
        argument(what, 0, 11);
        int onPiles = world.women.stream().mapToInt(woman -> woman.pile.size()).sum();
        int inHands = (int) world.women.stream().filter(woman -> woman.hand != null).count();
        int asleep = (int) world.women.stream().filter(woman -> woman.asleep).count();
        return new int[] {world.minutes, world.women.size(), world.shirts.size(), world.sewn(), onPiles, inHands,
            world.taken(), world.missed(), world.divisions, asleep, world.left(), saved.size()}[what];
    }

    long setting(int setting) {
        need(setting >= 0 && setting <= 2);
        return world.settings[setting];
    }

    long choice(int who) {
        woman(who);
        return world.chosen(who);
    }

    long doneIn() {
        return world.copy().done(true);
    }

    long doneAlone() {
        return world.copy().done(false);
    }

    long doneWith(int speed) {
        argument(speed, 1, 9);
        World with = world.copy();
        with.come(speed);
        return with.done(true);
    }

    long ifPassed(int minutes, int what) {
        argument(minutes, 1, 200);
        argument(what, 0, 3);
        World then = world.copy();
        then.pass(minutes);
        return new int[] {then.sewn() - world.sewn(), then.taken() - world.taken(), then.missed() - world.missed(),
            then.left()}[what];
    }

    long takenShare() {
        double share = world.takings == 0 ? 0.0 : (double) world.taken() / world.takings;
        return Double.doubleToLongBits(share);
    }

    long evenness() {
        int least = world.women.stream().mapToInt(Woman::load).min().getAsInt();
        int greatest = world.women.stream().mapToInt(Woman::load).max().getAsInt();
        return Float.floatToIntBits(greatest == 0 ? 1.0f : (float) least / greatest);
    }

    long digest() {
        List<Long> list = new ArrayList<>();
        for (int what = 0; what <= 11; what++) {
            list.add(count(what));
        }
        for (int setting : world.settings) {
            list.add((long) setting);
        }
        for (int who = 0; who < world.women.size(); who++) {
            for (int what = 0; what <= 9; what++) {
                list.add(seamstress(who, what));
            }
            world.women.get(who).pile.descendingIterator().forEachRemaining(shirt -> list.add((long) shirt.number));
            list.add(choice(who));
        }
        for (Shirt shirt : world.shirts) {
            list.addAll(List.of((long) shirt.work, (long) shirt.where, (long) shirt.whose));
        }
        list.addAll(List.of(doneIn(), doneAlone(), doneWith(1), doneWith(9)));
        list.addAll(List.of(ifPassed(10, 0), ifPassed(10, 1), ifPassed(10, 2), ifPassed(10, 3)));
        list.addAll(List.of(takenShare(), evenness(), kept == null ? 0L : 1L, (long) text.length()));
        text.chars().forEach(code -> list.add((long) code));
        long hash = 3319;
        for (long value : list) {
            hash = 31 * hash + value;
        }
        return hash;
    }
}
