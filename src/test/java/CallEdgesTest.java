/** Promises 1 to 7: what each call answers at the ends of its arguments and in the rooms that the document names. */
public final class CallEdgesTest {
    public static void main(String[] args) {
        newObjectHasNothing();
        newObjectsShareNothing();
        hireAnswersHerNumber();
        hiredOneComesWithAnEmptyPileAwake();
        hiringIsNoLaying();
        speedAnswersThePreviousOne();
        speedOfOneWhoSleepsOrSews();
        layAnswersTheNumberOfTheShirt();
        layOntoThePileOfEach();
        wakeAnswersWhetherSheSlept();
        wakeEndsMissesAlsoIfSheWasAwake();
        wakeWakesNobodyElse();
        passAnswersWhatIsSewnInThem();
        passOfOneAndOf99();
        passIsAsSoManySinglePasses();
        setAnswersThePreviousValue();
        setChangesOneSettingAlone();
        Check.end();
    }

    /** "Creates a room with 2 seamstresses and no shirts, with an empty buffer and no snapshot." */
    private static void newObjectHasNothing() {
        SewingPiles x = new SewingPiles();
        Check.due("2 seamstresses", 2, x.count(1));
        Check.due("no shirts", 0, x.count(2));
        Check.due("no saved states", 0, x.count(11));
        Check.due("an empty buffer", 0, x.firstError());
        Check.due("of no length", 0, x.clearBuffer());
        Check.dueThrow("no shirt 0", Check.BOUNDS, x, () -> x.shirt(0, 0));
        Check.dueThrow("no snapshot", Check.STATE, x, x::goBack);
        Check.dueThrow("nothing to undo", Check.STATE, x, x::undo);
        Check.dueThrow("nothing to obey", Check.ARGUMENT, x, x::obey);
    }

    private static void newObjectsShareNothing() {
        SewingPiles x = Rooms.atItsLimits();
        SewingPiles y = new SewingPiles();
        Check.due("no shirts of the other one's", 0, y.count(2));
        y.lay(1, 9);
        y.keep();
        Check.due("a shirt", 1, y.count(2));
        Check.dueTwins("the other one", Rooms.atItsLimits(), x);
    }

    /** "Returns her number." */
    private static void hireAnswersHerNumber() {
        SewingPiles x = new SewingPiles();
        Check.due("the third", 2, x.hire(1));
        Check.due("the fourth", 3, x.hire(9));
        Check.due("the fifth", 4, x.hire(5));
        Check.due("the sixth", 5, x.hire(9));
    }

    /** "Lets a seamstress come, with an empty pile, awake." */
    private static void hiredOneComesWithAnEmptyPileAwake() {
        SewingPiles x = Rooms.asleep(5);
        x.hire(4);
        Check.due("awake", 0, x.seamstress(5, 4));
        Check.due("an empty pile", 0, x.seamstress(5, 1));
        Check.due("no misses", 0, x.seamstress(5, 8));
        Check.due("no minute slept", 0, x.seamstress(5, 7));
        x.pass(2);
        Check.due("she misses from now on", 2, x.seamstress(5, 3));
    }

    private static void hiringIsNoLaying() {
        SewingPiles x = Rooms.asleep(2);
        x.hire(1);
        Check.due("the others sleep on", 2, x.count(9));
    }

    /** "Returns the previous speed." */
    private static void speedAnswersThePreviousOne() {
        SewingPiles x = Rooms.of(6);
        int previous = 1;
        for (int speed = 1; speed <= 9; speed++) {
            Check.due("of 0", previous, x.speed(0, speed));
            Check.due("of 5", previous, x.speed(5, speed));
            previous = speed;
        }
        Check.due("the others are as at first", 1, x.seamstress(1, 0));
        Check.due("the last one has 9", 9, x.seamstress(5, 0));
    }

    private static void speedOfOneWhoSleepsOrSews() {
        SewingPiles x = Rooms.asleep(2);
        x.speed(1, 9);
        Check.due("she sleeps on", 1, x.seamstress(1, 4));
        x.lay(0, 12);
        x.pass(2);
        x.speed(0, 6);
        x.pass(1);
        Check.due("5 of 11 are left", 5, x.shirt(0, 0));
    }

    /** "Returns the number of the shirt." */
    private static void layAnswersTheNumberOfTheShirt() {
        SewingPiles x = new SewingPiles();
        for (int number = 0; number < 16; number++) {
            Check.due("its number", number, x.lay(0, 1 + number));
            Check.due("its work", 1 + number, x.shirt(number, 0));
        }
        Check.due("onto the other pile", 16, x.lay(1, 99));
        Check.due("its work", 99, x.shirt(16, 0));
    }

    private static void layOntoThePileOfEach() {
        SewingPiles x = Rooms.of(6);
        for (int who = 0; who < 6; who++) {
            Check.due("its number", who, x.lay(who, 1));
            Check.due("it lies", 0, x.shirt(who, 1));
            Check.due("on her pile", who, x.shirt(who, 2));
            Check.due("one lies there", 1, x.seamstress(who, 1));
        }
    }

    /** "Returns 1 if she was asleep, otherwise 0." */
    private static void wakeAnswersWhetherSheSlept() {
        SewingPiles x = Rooms.asleep(6);
        Check.due("0 slept", 1, x.wake(0));
        Check.due("0 is awake", 0, x.wake(0));
        Check.due("5 slept", 1, x.wake(5));
        Check.due("5 is awake", 0, x.wake(5));
        Check.due("four sleep", 4, x.count(9));
    }

    /** "she has no misses then (also if she was awake)" */
    private static void wakeEndsMissesAlsoIfSheWasAwake() {
        SewingPiles x = new SewingPiles();
        x.pass(2);
        Check.due("she is awake", 0, x.wake(1));
        Check.due("no misses in a row", 0, x.seamstress(1, 3));
        Check.due("two so far", 2, x.seamstress(1, 8));
        x.pass(2);
        Check.due("she is awake behind two more", 0, x.seamstress(1, 4));
        Check.due("0 is not", 1, x.seamstress(0, 4));
    }

    private static void wakeWakesNobodyElse() {
        SewingPiles x = Rooms.asleep(6);
        x.wake(3);
        for (int who = 0; who < 6; who++) {
            Check.due("asleep", who == 3 ? 0 : 1, x.seamstress(who, 4));
        }
        x.lay(3, 9);
        x.pass(1);
        x.wake(3);
        Check.due("her shirt stays in a hand", 1, x.count(5));
    }

    /** "Returns how many shirts are sewn in them." */
    private static void passAnswersWhatIsSewnInThem() {
        SewingPiles x = new SewingPiles();
        Check.layAll(x, 0, 1, 1, 1, 1);
        Check.due("none in the first", 0, x.pass(1));
        Check.due("two in the second", 2, x.pass(1));
        Check.due("not those of before", 0, x.pass(1));
        Check.due("two more", 2, x.pass(99));
        Check.due("none is left", 0, x.pass(99));
    }

    /** "minutes: 1 to 99" */
    private static void passOfOneAndOf99() {
        SewingPiles x = new SewingPiles();
        x.set(0, 99);
        x.lay(0, 99);
        x.pass(1);
        Check.due("one less than needed", 0, x.pass(98));
        Check.due("98 and one", 99, x.count(0));
        Check.due("one is left", 1, x.count(10));
        x.undo();
        Check.due("as many as needed", 1, x.pass(99));
        Check.due("100 minutes", 100, x.count(0));
        x.pass(1);
        Check.due("101 minutes", 101, x.count(0));
    }

    private static void passIsAsSoManySinglePasses() {
        SewingPiles x = Rooms.of(4);
        SewingPiles y = Rooms.of(4);
        Check.layAll(x, 2, 70, 5, 41);
        Check.layAll(y, 2, 70, 5, 41);
        int sewn = 0;
        for (int minute = 0; minute < 60; minute++) {
            sewn += y.pass(1);
        }
        Check.due("sewn", sewn, x.pass(60));
        for (int what = 0; what <= 10; what++) {
            Check.due("count(" + what + ")", y.count(what), x.count(what));
        }
        Check.due("undone as one call", 5, x.undo());
        Check.due("no minute", 0, x.count(0));
        y.undo();
        Check.due("but here one minute less", 59, y.count(0));
    }

    /** "Returns the previous value." */
    private static void setAnswersThePreviousValue() {
        SewingPiles x = new SewingPiles();
        Check.due("0 at first", 20, x.set(0, 99));
        Check.due("0 then", 99, x.set(0, 2));
        Check.due("0 then", 2, x.set(0, 2));
        Check.due("1 at first", 0, x.set(1, 2));
        Check.due("1 then", 2, x.set(1, 0));
        Check.due("2 at first", 3, x.set(2, 20));
        Check.due("2 then", 20, x.set(2, 1));
        Check.due("2 then", 1, x.set(2, 1));
    }

    private static void setChangesOneSettingAlone() {
        for (int setting = 0; setting < 3; setting++) {
            SewingPiles x = new SewingPiles();
            x.set(setting, 2);
            int[] due = {20, 0, 3};
            due[setting] = 2;
            for (int other = 0; other < 3; other++) {
                Check.due("setting " + other, due[other], x.setting(other));
            }
        }
    }
}
