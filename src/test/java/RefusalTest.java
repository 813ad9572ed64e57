/**
 * The document's Exceptions: every method with every wrong argument and in every state in which it refuses. "A call
 * that throws an exception changes nothing": behind each refused call the room is compared, with its snapshot and its
 * saved states, with one that was never asked. "If several exceptions apply, the one that is named first in the throws
 * clause is thrown."
 */
public final class RefusalTest {
    private static final int MIN = Integer.MIN_VALUE;
    private static final int MAX = Integer.MAX_VALUE;
    private static final int[] WRONG_SPEEDS = {0, 10, -1, MIN, MAX};
    private static final int[] WRONG_WORKS = {0, 100, -1, MIN, MAX};
    private static final int[] WRONG_CODES = {32, 127, 0, 10, -1, 256 + 'm', 65536 + 'm', MIN, MAX};

    interface Maker {
        SewingPiles make();
    }

    private final String room;
    private final Maker maker;
    private final int[] nobodies;

    private RefusalTest(String room, Maker maker) {
        this.room = room;
        this.maker = maker;
        int seamstresses = maker.make().count(1);
        nobodies = new int[] {-1, seamstresses, 6, 7, MIN, MAX};
    }

    public static void main(String[] args) {
        RefusalTest fresh = new RefusalTest("new", SewingPiles::new);
        RefusalTest busy = new RefusalTest("busy", RefusalTest::busyRoom);
        RefusalTest limits = new RefusalTest("at its limits", Rooms::atItsLimits);
        RefusalTest all = new RefusalTest("with 120 shirts", () -> Rooms.withSewnShirts(120));
        for (RefusalTest test : new RefusalTest[] {fresh, busy, limits, all}) {
            test.refuseArguments();
            test.refuseArgumentsOfLooks();
        }
        fresh.refused("undo without a saved state", Check.STATE, SewingPiles::undo);
        fresh.refused("goBack without a snapshot", Check.STATE, SewingPiles::goBack);
        all.refused("goBack without a snapshot", Check.STATE, SewingPiles::goBack);
        limits.refuseAtLimits();
        all.refuseAShirt(0);
        all.refuseAShirt(1);
        incompleteOrders();
        Check.end();
    }

    /** Some of each: a hired one, shirts on piles, in hands and sewn, a division, a sleeper, a snapshot, orders. */
    private static SewingPiles busyRoom() {
        SewingPiles x = new SewingPiles();
        x.pass(3);
        x.hire(2);
        x.lay(2, 50);
        x.pass(20);
        x.keep();
        x.set(1, 2);
        Check.layAll(x, 1, 8, 9, 70);
        x.pass(4);
        Check.write(x, "l0.9;m5;l0.");
        return x;
    }

    private void refused(String what, String due, Check.CallOf call) {
        SewingPiles asked = maker.make();
        SewingPiles notAsked = maker.make();
        String name = room + ": " + what;
        Check.dueThrown(name, due, () -> call.answer(asked));
        Check.dueTwins(name, notAsked, asked);
    }

    private void refuseArguments() {
        refuseArgumentsOfHireAndSpeed();
        refuseArgumentsOfLayAndWake();
        for (int minutes : new int[] {0, 100, -1, MIN, MAX}) {
            refused("pass(" + minutes + ")", Check.ARGUMENT, x -> x.pass(minutes));
        }
        for (int code : WRONG_CODES) {
            refused("append(" + code + ")", Check.ARGUMENT, x -> x.append(code));
        }
        refuseArgumentsOfSet();
    }

    private void refuseArgumentsOfHireAndSpeed() {
        for (int speed : WRONG_SPEEDS) {
            refused("hire(" + speed + ")", Check.ARGUMENT, x -> x.hire(speed));
            refused("speed(0, " + speed + ")", Check.ARGUMENT, x -> x.speed(0, speed));
            refused("speed(1, " + speed + ")", Check.ARGUMENT, x -> x.speed(1, speed));
            refused("speed(-1, " + speed + ")", Check.BOUNDS, x -> x.speed(-1, speed));
        }
        for (int who : nobodies) {
            refused("speed(" + who + ", 5)", Check.BOUNDS, x -> x.speed(who, 5));
            refused("speed(" + who + ", 0)", Check.BOUNDS, x -> x.speed(who, 0));
            refused("speed(" + who + ", 10)", Check.BOUNDS, x -> x.speed(who, 10));
        }
    }

    private void refuseArgumentsOfLayAndWake() {
        for (int work : WRONG_WORKS) {
            refused("lay(0, " + work + ")", Check.ARGUMENT, x -> x.lay(0, work));
            refused("lay(1, " + work + ")", Check.ARGUMENT, x -> x.lay(1, work));
            refused("lay(6, " + work + ")", Check.BOUNDS, x -> x.lay(6, work));
        }
        for (int who : nobodies) {
            refused("lay(" + who + ", 1)", Check.BOUNDS, x -> x.lay(who, 1));
            refused("lay(" + who + ", 0)", Check.BOUNDS, x -> x.lay(who, 0));
            refused("wake(" + who + ")", Check.BOUNDS, x -> x.wake(who));
        }
    }

    private void refuseArgumentsOfSet() {
        int[] least = {2, 0, 1};
        int[] greatest = {99, 2, 20};
        for (int i = 0; i < 3; i++) {
            int setting = i;
            for (int value : new int[] {least[i] - 1, greatest[i] + 1, MIN, MAX}) {
                refused("set(" + i + ", " + value + ")", Check.ARGUMENT, x -> x.set(setting, value));
            }
        }
        for (int setting : new int[] {-1, 3, MIN, MAX}) {
            for (int value : new int[] {2, 1, -1, 100, MIN, MAX}) {
                refused("set(" + setting + ", " + value + ")", Check.BOUNDS, x -> x.set(setting, value));
            }
        }
    }

    private void refuseArgumentsOfLooks() {
        refuseArgumentsOfSeamstressAndPile();
        refuseArgumentsOfShirt();
        for (int what : new int[] {-1, 12, MIN, MAX}) {
            refused("count(" + what + ")", Check.ARGUMENT, x -> x.count(what));
        }
        for (int setting : new int[] {-1, 3, MIN, MAX}) {
            refused("setting(" + setting + ")", Check.BOUNDS, x -> x.setting(setting));
        }
        for (int who : nobodies) {
            refused("choice(" + who + ")", Check.BOUNDS, x -> x.choice(who));
        }
        for (int speed : WRONG_SPEEDS) {
            refused("doneWith(" + speed + ")", Check.ARGUMENT, x -> x.doneWith(speed));
        }
        for (int minutes : new int[] {0, 201, -1, MIN, MAX}) {
            refused("ifPassed(" + minutes + ", 0)", Check.ARGUMENT, x -> x.ifPassed(minutes, 0));
            refused("ifPassed(" + minutes + ", 4)", Check.ARGUMENT, x -> x.ifPassed(minutes, 4));
        }
        for (int what : new int[] {-1, 4, MIN, MAX}) {
            refused("ifPassed(1, " + what + ")", Check.ARGUMENT, x -> x.ifPassed(1, what));
            refused("ifPassed(200, " + what + ")", Check.ARGUMENT, x -> x.ifPassed(200, what));
        }
    }

    private void refuseArgumentsOfSeamstressAndPile() {
        for (int who : nobodies) {
            refused("seamstress(" + who + ", 0)", Check.BOUNDS, x -> x.seamstress(who, 0));
            refused("seamstress(" + who + ", 10)", Check.BOUNDS, x -> x.seamstress(who, 10));
            refused("pile(" + who + ", 0)", Check.BOUNDS, x -> x.pile(who, 0));
            refused("pile(" + who + ", -1)", Check.BOUNDS, x -> x.pile(who, -1));
        }
        for (int what : new int[] {-1, 10, MIN, MAX}) {
            refused("seamstress(1, " + what + ")", Check.ARGUMENT, x -> x.seamstress(1, what));
        }
        refused("pile(1, -1)", Check.ARGUMENT, x -> x.pile(1, -1));
        refused("pile(1, min)", Check.ARGUMENT, x -> x.pile(1, MIN));
    }

    private void refuseArgumentsOfShirt() {
        int came = maker.make().count(2);
        for (int shirt : new int[] {-1, came, 120, MIN, MAX}) {
            refused("shirt(" + shirt + ", 0)", Check.BOUNDS, x -> x.shirt(shirt, 0));
            refused("shirt(" + shirt + ", 3)", Check.BOUNDS, x -> x.shirt(shirt, 3));
        }
        if (came > 0) {
            for (int what : new int[] {-1, 3, MIN, MAX}) {
                refused("shirt(0, " + what + ")", Check.ARGUMENT, x -> x.shirt(0, what));
                refused("the last shirt, " + what, Check.ARGUMENT, x -> x.shirt(came - 1, what));
            }
        }
    }

    /** Here the right arguments are refused by the state, and the wrong ones still as wrong ones. */
    private void refuseAtLimits() {
        for (int speed = 1; speed <= 9; speed++) {
            int right = speed;
            refused("hire(" + speed + ") of a seventh", Check.STATE, x -> x.hire(right));
        }
        for (int code : new int[] {33, 'm', 126}) {
            refused("append(" + code + ") of a 61st", Check.STATE, x -> x.append(code));
        }
        refused("obey of what ends in ;", Check.ARGUMENT, SewingPiles::obey);
        refuseAShirt(5);
    }

    /** None can be laid onto her pile. */
    private void refuseAShirt(int who) {
        refused("lay(" + who + ", 1)", Check.STATE, x -> x.lay(who, 1));
        refused("lay(" + who + ", 99)", Check.STATE, x -> x.lay(who, 99));
        for (int work : WRONG_WORKS) {
            refused("lay(" + who + ", " + work + ")", Check.ARGUMENT, x -> x.lay(who, work));
        }
    }

    private static void incompleteOrders() {
        for (String text : new String[] {"", "m", "m1;", "l0.1;v0", "m1;x", "m0", "w6", ";m1"}) {
            RefusalTest test = new RefusalTest("with the text " + text, () -> {
                SewingPiles x = busyRoom();
                x.clearBuffer();
                Check.write(x, text);
                return x;
            });
            test.refused("obey", Check.ARGUMENT, SewingPiles::obey);
        }
    }
}
