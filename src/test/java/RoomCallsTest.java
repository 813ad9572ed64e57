/** Promises 1 to 7: a new object, hire, speed, lay, wake, pass, set. */
public final class RoomCallsTest {
    public static void main(String[] args) {
        newObject();
        hire();
        hiredOneWorks();
        speed();
        lay();
        layOntoFullPile();
        layAll120();
        layWakesTheFirstSleeper();
        wake();
        pass();
        set();
        setTakesEffect();
        Check.end();
    }

    private static void newObject() {
        SewingPiles x = new SewingPiles();
        for (int what = 0; what <= 11; what++) {
            Check.due("1: count(" + what + ")", what == 1 ? 2 : 0, x.count(what));
        }
        Check.due("1: setting(0)", 20, x.setting(0));
        Check.due("1: setting(1)", 0, x.setting(1));
        Check.due("1: setting(2)", 3, x.setting(2));
        for (int who = 0; who < 2; who++) {
            for (int what = 0; what <= 9; what++) {
                int due = what == 0 ? 1 : what == 2 ? SewingPiles.NONE : 0;
                Check.due("1: seamstress(" + who + ", " + what + ")", due, x.seamstress(who, what));
            }
            Check.due("1: pile", SewingPiles.NONE, x.pile(who, 0));
            Check.due("1: choice", SewingPiles.NONE, x.choice(who));
        }
        Check.dueThrow("1: no third seamstress", Check.BOUNDS, x, () -> x.seamstress(2, 0));
        Check.dueThrow("1: no shirt", Check.BOUNDS, x, () -> x.shirt(0, 0));
        Check.dueThrow("1: no snapshot", Check.STATE, x, x::goBack);
        Check.dueThrow("1: no saved state", Check.STATE, x, x::undo);
        Check.due("1: the buffer is empty", 0, x.clearBuffer());
        Check.due("1: a second object", new SewingPiles().digest(), x.digest());
    }

    private static void hire() {
        SewingPiles x = new SewingPiles();
        Check.dueThrow("2: hire(0)", Check.ARGUMENT, x, () -> x.hire(0));
        Check.dueThrow("2: hire(10)", Check.ARGUMENT, x, () -> x.hire(10));
        Check.dueThrow("2: hire(min)", Check.ARGUMENT, x, () -> x.hire(Integer.MIN_VALUE));
        Check.due("2: hire(1)", 2, x.hire(1));
        Check.due("2: hire(9)", 3, x.hire(9));
        Check.due("2: hire(5)", 4, x.hire(5));
        Check.due("2: saved states", 3, x.count(11));
        Check.due("2: undo", 2, x.undo());
        Check.due("2: seamstresses behind undo", 4, x.count(1));
        Check.due("2: hire(7)", 4, x.hire(7));
        Check.due("2: hire(2)", 5, x.hire(2));
        int[] speeds = {1, 1, 1, 9, 7, 2};
        for (int who = 0; who < 6; who++) {
            Check.due("2: speed of " + who, speeds[who], x.seamstress(who, 0));
            Check.due("2: empty pile of " + who, 0, x.seamstress(who, 1));
            Check.due("2: empty hand of " + who, SewingPiles.NONE, x.seamstress(who, 2));
            Check.due("2: awake is " + who, 0, x.seamstress(who, 4));
        }
        Check.dueThrow("2: a seventh", Check.STATE, x, () -> x.hire(1));
        Check.dueThrow("2: a seventh with speed 0", Check.ARGUMENT, x, () -> x.hire(0));
        Check.dueThrow("2: a seventh with speed 10", Check.ARGUMENT, x, () -> x.hire(10));
    }

    private static void hiredOneWorks() {
        SewingPiles x = new SewingPiles();
        x.pass(3);
        x.hire(4);
        Check.due("2: the hired one is awake", 0, x.seamstress(2, 4));
        Check.due("2: the others sleep on", 2, x.count(9));
        x.pass(1);
        Check.due("2: she misses", 1, x.seamstress(2, 3));
        x.lay(2, 5);
        x.pass(3);
        Check.due("2: she sewed", 1, x.seamstress(2, 5));
    }

    private static void speed() {
        SewingPiles x = new SewingPiles();
        Check.due("3: speed(0, 5)", 1, x.speed(0, 5));
        Check.due("3: speed(0, 9)", 5, x.speed(0, 9));
        Check.due("3: speed(1, 1)", 1, x.speed(1, 1));
        Check.due("3: the new speed", 9, x.seamstress(0, 0));
        Check.due("3: the other one's", 1, x.seamstress(1, 0));
        Check.due("3: undoable, also without a change", 2, x.undo());
        Check.due("3: undo", 1, x.undo());
        Check.due("3: speed behind undo", 5, x.seamstress(0, 0));
        Check.dueThrow("3: speed(-1, 1)", Check.BOUNDS, x, () -> x.speed(-1, 1));
        Check.dueThrow("3: speed(2, 1)", Check.BOUNDS, x, () -> x.speed(2, 1));
        Check.dueThrow("3: speed(2, 0)", Check.BOUNDS, x, () -> x.speed(2, 0));
        Check.dueThrow("3: speed(0, 0)", Check.ARGUMENT, x, () -> x.speed(0, 0));
        Check.dueThrow("3: speed(1, 10)", Check.ARGUMENT, x, () -> x.speed(1, 10));
        x.lay(0, 11);
        x.pass(3);
        Check.due("3: sews with the speed", 1, x.shirt(0, 0));
        x.speed(0, 1);
        x.pass(1);
        Check.due("3: and with the new one", 2, x.shirt(0, 1));
    }

    private static void lay() {
        SewingPiles x = new SewingPiles();
        Check.due("4: lay(1, 1)", 0, x.lay(1, 1));
        Check.due("4: lay(1, 99)", 1, x.lay(1, 99));
        Check.due("4: lay(0, 7)", 2, x.lay(0, 7));
        Check.due("4: saved states", 3, x.count(11));
        Check.due("4: the far end", 0, x.pile(1, 0));
        Check.due("4: the near end", 1, x.pile(1, 1));
        Check.due("4: not divided yet", 99, x.shirt(1, 0));
        Check.due("4: undo", 2, x.undo());
        Check.due("4: shirts behind undo", 2, x.count(2));
        Check.due("4: the number again", 2, x.lay(0, 8));
        Check.due("4: its work", 8, x.shirt(2, 0));
        Check.dueThrow("4: lay(-1, 5)", Check.BOUNDS, x, () -> x.lay(-1, 5));
        Check.dueThrow("4: lay(2, 5)", Check.BOUNDS, x, () -> x.lay(2, 5));
        Check.dueThrow("4: lay(2, 0)", Check.BOUNDS, x, () -> x.lay(2, 0));
        Check.dueThrow("4: lay(0, 0)", Check.ARGUMENT, x, () -> x.lay(0, 0));
        Check.dueThrow("4: lay(0, 100)", Check.ARGUMENT, x, () -> x.lay(0, 100));
    }

    private static void layOntoFullPile() {
        SewingPiles x = new SewingPiles();
        for (int i = 0; i < 16; i++) {
            Check.due("4: lay " + i, i, x.lay(1, 2));
        }
        Check.dueThrow("4: a 17th onto the pile", Check.STATE, x, () -> x.lay(1, 2));
        Check.dueThrow("4: a 17th with work 0", Check.ARGUMENT, x, () -> x.lay(1, 0));
        Check.dueThrow("4: a 17th onto nobody's", Check.BOUNDS, x, () -> x.lay(9, 2));
        Check.due("4: the other pile has room", 16, x.lay(0, 2));
        x.pass(1);
        Check.due("4: room again", 17, x.lay(1, 2));
    }

    private static void layAll120() {
        SewingPiles x = Rooms.withSewnShirts(118);
        Check.due("4: the 119th", 118, x.lay(0, 50));
        x.pass(1);
        Check.due("4: it is divided, the new one is the 120th", 120, x.count(2));
        Check.due("4: divided once", 1, x.count(8));
        Check.dueThrow("4: a 121st", Check.STATE, x, () -> x.lay(0, 1));
        Check.dueThrow("4: a 121st with work 0", Check.ARGUMENT, x, () -> x.lay(0, 0));
        x.pass(99);
        Check.due("4: the half of 25 is not divided", 1, x.count(8));
        SewingPiles y = Rooms.withSewnShirts(119);
        Check.due("4: the 120th", 119, y.lay(1, 99));
        y.pass(1);
        Check.due("4: not divided, for 120 came", 0, y.count(8));
        Check.due("4: whole", 99, y.shirt(119, 0));
        Check.dueThrow("4: none above 120", Check.STATE, y, () -> y.lay(1, 1));
    }

    private static void layWakesTheFirstSleeper() {
        SewingPiles x = new SewingPiles();
        x.hire(1);
        x.pass(3);
        Check.due("4: all sleep", 3, x.count(9));
        x.wake(0);
        x.pass(1);
        x.lay(2, 5);
        Check.due("4: 1 wakes", 0, x.seamstress(1, 4));
        Check.due("4: 2 sleeps on", 1, x.seamstress(2, 4));
        Check.due("4: 0 keeps her miss", 1, x.seamstress(0, 3));
        x.lay(2, 5);
        Check.due("4: then 2 wakes", 0, x.seamstress(2, 4));
        x.lay(2, 5);
        Check.due("4: then nobody", 0, x.count(9));
        Check.due("4: 0 keeps her miss still", 1, x.seamstress(0, 3));
    }

    private static void wake() {
        SewingPiles x = new SewingPiles();
        x.pass(2);
        Check.due("5: two misses", 2, x.seamstress(0, 3));
        Check.due("5: she was awake", 0, x.wake(0));
        Check.due("5: no misses", 0, x.seamstress(0, 3));
        Check.due("5: the other one's stay", 2, x.seamstress(1, 3));
        Check.due("5: the misses so far stay", 2, x.seamstress(0, 8));
        x.pass(1);
        Check.due("5: the other one sleeps", 1, x.seamstress(1, 4));
        Check.due("5: she was asleep", 1, x.wake(1));
        Check.due("5: she is awake", 0, x.seamstress(1, 4));
        Check.due("5: undo", 3, x.undo());
        Check.due("5: she is asleep again", 1, x.seamstress(1, 4));
        x.wake(0);
        Check.due("5: saved also if she was awake", 4, x.count(11));
        Check.dueThrow("5: wake(-1)", Check.BOUNDS, x, () -> x.wake(-1));
        Check.dueThrow("5: wake(2)", Check.BOUNDS, x, () -> x.wake(2));
    }

    private static void pass() {
        SewingPiles x = new SewingPiles();
        Check.layAll(x, 0, 2, 1);
        Check.due("6: both are taken", 0, x.pass(1));
        Check.due("6: the one of 1 is sewn", 1, x.pass(1));
        Check.due("6: minutes", 2, x.count(0));
        Check.due("6: the other one", 1, x.pass(99));
        Check.due("6: minutes", 101, x.count(0));
        Check.due("6: none is left", 0, x.pass(5));
        Check.due("6: undo", 5, x.undo());
        Check.due("6: undo as one call", 4, x.undo());
        Check.due("6: minutes behind undo", 2, x.count(0));
        Check.due("6: sewn behind undo", 1, x.count(3));
        Check.dueThrow("6: pass(0)", Check.ARGUMENT, x, () -> x.pass(0));
        Check.dueThrow("6: pass(100)", Check.ARGUMENT, x, () -> x.pass(100));
        Check.dueThrow("6: pass(-5)", Check.ARGUMENT, x, () -> x.pass(-5));
    }

    private static void set() {
        SewingPiles x = new SewingPiles();
        int[] least = {2, 0, 1};
        int[] most = {99, 2, 20};
        int[] first = {20, 0, 3};
        for (int setting = 0; setting < 3; setting++) {
            int s = setting;
            Check.due("7: set to the least", first[s], x.set(s, least[s]));
            Check.due("7: set to the most", least[s], x.set(s, most[s]));
            Check.due("7: undo", s + 1, x.undo());
            Check.due("7: behind undo", least[s], x.setting(s));
            Check.dueThrow("7: below the least", Check.ARGUMENT, x, () -> x.set(s, least[s] - 1));
            Check.dueThrow("7: above the most", Check.ARGUMENT, x, () -> x.set(s, most[s] + 1));
        }
        Check.dueThrow("7: set(-1, 2)", Check.BOUNDS, x, () -> x.set(-1, 2));
        Check.dueThrow("7: set(3, 2)", Check.BOUNDS, x, () -> x.set(3, 2));
        Check.dueThrow("7: set(3, -9)", Check.BOUNDS, x, () -> x.set(3, -9));
        Check.due("7: three are saved", 3, x.count(11));
    }

    private static void setTakesEffect() {
        SewingPiles x = new SewingPiles();
        x.set(2, 1);
        x.pass(1);
        Check.due("7: asleep behind one miss", 2, x.count(9));
        x.wake(0);
        x.set(2, 20);
        x.pass(19);
        Check.due("7: 19 misses in a row", 19, x.seamstress(0, 3));
        x.set(2, 5);
        Check.due("7: no miss, no sleep", 0, x.seamstress(0, 4));
        x.pass(1);
        Check.due("7: more misses than the setting", 1, x.seamstress(0, 4));
        Check.due("7: no misses in a row then", 0, x.seamstress(0, 3));
        x.set(0, 2);
        x.lay(0, 3);
        x.pass(1);
        Check.due("7: 3 is above 2", 1, x.count(8));
    }
}
