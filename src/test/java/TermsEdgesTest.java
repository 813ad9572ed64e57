/**
 * The document's Terms: seamstresses, piles, shirts, laying, waking, dividing. Each method holds one sentence at the
 * least and the greatest that it names, and beside them.
 */
public final class TermsEdgesTest {
    public static void main(String[] args) {
        thereAreTwoToSixSeamstresses();
        numberedInTheOrderInWhichTheyCame();
        speedIsOneToNineAtFirstOne();
        awakeAtFirst();
        pileHasRoomFor16();
        roomForOneMoreWhereOneWasTaken();
        fullPileIsFullAgainBehindADivision();
        oneShirtInHandOrNone();
        shirtNumbersAreInTheOrderInWhichTheyCame();
        the120thShirtIsLaid();
        the120thShirtComesByDivision();
        the120thShirtIsNotDivided();
        onlyTheFirstOfTwoTakersMakesThe120th();
        the120thShirtUndoneComesAgain();
        shirtIsOnAPileInAHandOrSewn();
        layingPutsAtTheNearEnd();
        eachLayingWakesTheLowestSleeper();
        layingWakesTheSixthIfSheAloneSleeps();
        wokenOneHasNoMisses();
        takenWithJustTheSettingIsNotDivided();
        takenWithOneAboveTheSettingIsDivided();
        dividedByTheSettingThen();
        halfIsRoundedDown();
        halfIsLaidOntoThePileOfHerWhoTook();
        restInTheHandIsNotDividedAgain();
        halfIsDividedWhenItIsTaken();
        divisionWakesTheLowestSleeper();
        settingsAtFirst();
        Check.end();
    }

    /** "There are 2 to 6 seamstresses [..]; at first there are 2." */
    private static void thereAreTwoToSixSeamstresses() {
        SewingPiles x = new SewingPiles();
        Check.due("at first", 2, x.count(1));
        Check.dueThrow("there is no 2", Check.BOUNDS, x, () -> x.seamstress(2, 0));
        for (int due = 3; due <= 6; due++) {
            x.hire(1);
            Check.due("one more", due, x.count(1));
        }
        Check.due("5 is there", 1, x.seamstress(5, 0));
        Check.dueThrow("there is no 6", Check.BOUNDS, x, () -> x.seamstress(6, 0));
        Check.dueThrow("no seventh comes", Check.STATE, x, () -> x.hire(1));
        x.undo();
        Check.due("a sixth comes again", 5, x.hire(1));
        Check.dueThrow("no seventh comes still", Check.STATE, x, () -> x.hire(1));
    }

    /** "numbered from 0 in the order in which they came" */
    private static void numberedInTheOrderInWhichTheyCame() {
        SewingPiles x = new SewingPiles();
        for (int number = 2; number < 6; number++) {
            Check.due("her number", number, x.hire(10 - number));
        }
        for (int number = 2; number < 6; number++) {
            Check.due("the speed she came with", 10 - number, x.seamstress(number, 0));
        }
    }

    /** "A seamstress has a speed, 1 to 9, at first 1" */
    private static void speedIsOneToNineAtFirstOne() {
        SewingPiles x = new SewingPiles();
        Check.due("0 at first", 1, x.seamstress(0, 0));
        Check.due("1 at first", 1, x.seamstress(1, 0));
        Check.due("9 is a speed", 1, x.speed(0, 9));
        Check.due("1 is a speed", 9, x.speed(0, 1));
        Check.dueThrow("0 is none", Check.ARGUMENT, x, () -> x.speed(0, 0));
        Check.dueThrow("10 is none", Check.ARGUMENT, x, () -> x.speed(0, 10));
    }

    /** "she is awake, as at first, or asleep" */
    private static void awakeAtFirst() {
        SewingPiles x = Rooms.of(6);
        Check.due("none sleeps", 0, x.count(9));
        for (int who = 0; who < 6; who++) {
            Check.due("awake", 0, x.seamstress(who, 4));
        }
        x.pass(3);
        for (int who = 0; who < 6; who++) {
            Check.due("asleep", 1, x.seamstress(who, 4));
        }
        Check.due("all sleep", 6, x.count(9));
    }

    /** "a pile with room for 16 shirts" */
    private static void pileHasRoomFor16() {
        SewingPiles x = Rooms.withFullPiles(5);
        Check.due("six piles of 16", 96, x.count(4));
        for (int who = 0; who < 6; who++) {
            int full = who;
            Check.due("16 lie", 16, x.seamstress(who, 1));
            Check.due("the 16th", 16 * who + 15, x.pile(who, 15));
            Check.due("no 17th", SewingPiles.NONE, x.pile(who, 16));
            Check.dueThrow("a 17th is refused", Check.STATE, x, () -> x.lay(full, 1));
        }
    }

    private static void roomForOneMoreWhereOneWasTaken() {
        SewingPiles x = new SewingPiles();
        for (int i = 0; i < 16; i++) {
            x.lay(0, 9);
        }
        x.pass(1);
        Check.due("0 took one, 1 another", 14, x.seamstress(0, 1));
        x.lay(0, 9);
        Check.due("the 16th again", 17, x.lay(0, 9));
        Check.due("16 lie", 16, x.seamstress(0, 1));
        Check.due("the new one at the near end", 17, x.pile(0, 15));
        Check.due("the far one was taken", 1, x.pile(0, 0));
        Check.dueThrow("a 17th is refused", Check.STATE, x, () -> x.lay(0, 9));
    }

    /** A pile of 16 from which the near one is taken has room for the half of it. */
    private static void fullPileIsFullAgainBehindADivision() {
        SewingPiles x = new SewingPiles();
        x.lay(1, 20);
        x.pass(1);
        for (int i = 0; i < 15; i++) {
            x.lay(0, 1);
        }
        Check.due("the 16th", 16, x.lay(0, 21));
        x.pass(1);
        Check.due("0 took it", 16, x.seamstress(0, 2));
        Check.due("and keeps the rest", 11, x.shirt(16, 0));
        Check.due("the pile is full again", 16, x.seamstress(0, 1));
        Check.due("with the half", 17, x.pile(0, 15));
        Check.due("of it", 10, x.shirt(17, 0));
        Check.dueThrow("so that none can be laid", Check.STATE, x, () -> x.lay(0, 1));
    }

    /** "in her hand one shirt, or none" */
    private static void oneShirtInHandOrNone() {
        SewingPiles x = new SewingPiles();
        Check.due("none", SewingPiles.NONE, x.seamstress(0, 2));
        Check.layAll(x, 0, 3, 3, 3);
        x.pass(1);
        Check.due("one", 2, x.seamstress(0, 2));
        x.pass(2);
        Check.due("the same one", 2, x.seamstress(0, 2));
        Check.due("each has one", 2, x.count(5));
        x.pass(1);
        Check.due("none when it is sewn", SewingPiles.NONE, x.seamstress(0, 2));
        Check.due("no hand holds one", 0, x.count(5));
    }

    /** "A shirt has a number, from 0 in the order in which shirts came" */
    private static void shirtNumbersAreInTheOrderInWhichTheyCame() {
        SewingPiles x = new SewingPiles();
        Check.due("the first one", 0, x.lay(1, 30));
        Check.due("the second one", 1, x.lay(0, 40));
        x.pass(1);
        Check.due("0 divides first", 20, x.shirt(2, 0));
        Check.due("then 1", 15, x.shirt(3, 0));
        Check.due("the next one that is laid", 4, x.lay(0, 1));
    }

    /** "There are at most 120 shirts ever." */
    private static void the120thShirtIsLaid() {
        SewingPiles x = Rooms.withSewnShirts(119);
        Check.dueThrow("there is no 119 yet", Check.BOUNDS, x, () -> x.shirt(119, 0));
        Check.due("the 120th", 119, x.lay(0, 99));
        Check.due("its work", 99, x.shirt(119, 0));
        Check.due("120 came", 120, x.count(2));
        Check.dueThrow("a 121st is refused", Check.STATE, x, () -> x.lay(1, 1));
        x.pass(99);
        x.pass(1);
        Check.due("all are sewn", 120, x.count(3));
        Check.dueThrow("a 121st is refused still", Check.STATE, x, () -> x.lay(1, 1));
        Check.dueThrow("there is no shirt 120", Check.BOUNDS, x, () -> x.shirt(120, 0));
    }

    private static void the120thShirtComesByDivision() {
        SewingPiles x = Rooms.withSewnShirts(118);
        x.lay(1, 90);
        x.pass(1);
        Check.due("0 took it from the sleeper and keeps 45", 45, x.shirt(118, 0));
        Check.due("with the half 120 came", 120, x.count(2));
        Check.due("1 woke by that and took the half", 119, x.seamstress(1, 2));
        Check.due("whole, though above 20", 45, x.shirt(119, 0));
        Check.due("divided once", 1, x.count(8));
        Check.dueThrow("a 121st is refused", Check.STATE, x, () -> x.lay(0, 1));
    }

    /** "If its work is above setting 0 then, and fewer than 120 shirts came so far, it is divided" */
    private static void the120thShirtIsNotDivided() {
        SewingPiles x = Rooms.withSewnShirts(119);
        x.lay(1, 99);
        x.pass(1);
        Check.due("0 took it from the sleeper", 119, x.seamstress(0, 2));
        Check.due("whole", 99, x.shirt(119, 0));
        Check.due("nothing lies", 0, x.count(4));
        Check.due("none was divided", 0, x.count(8));
        Check.due("so one sews all of it", 99, x.doneIn());
    }

    private static void onlyTheFirstOfTwoTakersMakesThe120th() {
        SewingPiles x = Rooms.withSewnShirts(117);
        x.lay(0, 50);
        x.lay(1, 50);
        x.pass(1);
        Check.due("0 divided hers", 25, x.shirt(117, 0));
        Check.due("the 120th is the half", 25, x.shirt(119, 0));
        Check.due("1 keeps hers", 50, x.shirt(118, 0));
        Check.due("divided once", 1, x.count(8));
        Check.due("120 came", 120, x.count(2));
    }

    private static void the120thShirtUndoneComesAgain() {
        SewingPiles x = Rooms.withSewnShirts(119);
        x.lay(0, 7);
        x.undo();
        Check.due("119 came", 119, x.count(2));
        Check.due("the 120th", 119, x.lay(1, 8));
        Check.due("its work", 8, x.shirt(119, 0));
    }

    /** "A shirt lies on a pile, is in a hand, or is sewn." */
    private static void shirtIsOnAPileInAHandOrSewn() {
        SewingPiles x = new SewingPiles();
        x.lay(1, 2);
        dueShirts("it lies", 1, 0, 0, x);
        x.pass(1);
        dueShirts("it is in a hand", 0, 1, 0, x);
        x.pass(1);
        dueShirts("it is so still", 0, 1, 0, x);
        x.pass(1);
        dueShirts("it is sewn", 0, 0, 1, x);
    }

    private static void dueShirts(String what, int lying, int inHands, int sewn, SewingPiles x) {
        Check.due(what + ", on piles", lying, x.count(4));
        Check.due(what + ", in hands", inHands, x.count(5));
        Check.due(what + ", sewn", sewn, x.count(3));
        Check.due(what + ", told by the shirt", lying == 1 ? 0 : inHands == 1 ? 1 : 2, x.shirt(0, 1));
    }

    /** "To lay a shirt onto a pile is to put it at the near end." */
    private static void layingPutsAtTheNearEnd() {
        SewingPiles x = new SewingPiles();
        for (int i = 0; i < 16; i++) {
            x.lay(1, 1);
            Check.due("at the near end", i, x.pile(1, i));
            Check.due("none behind it", SewingPiles.NONE, x.pile(1, i + 1));
            Check.due("the far end stays", 0, x.pile(1, 0));
        }
    }

    /** "Behind each laying the seamstress with the lowest number of those who are asleep wakes" */
    private static void eachLayingWakesTheLowestSleeper() {
        SewingPiles x = Rooms.asleep(6);
        for (int laid = 1; laid <= 6; laid++) {
            x.lay(5, 1);
            for (int who = 0; who < 6; who++) {
                Check.due(laid + " laid, is " + who + " asleep", who < laid ? 0 : 1, x.seamstress(who, 4));
            }
        }
        x.lay(5, 1);
        Check.due("nobody is left to wake", 0, x.count(9));
        SewingPiles y = Rooms.asleep(3);
        y.wake(1);
        y.lay(0, 1);
        Check.due("0 wakes", 0, y.seamstress(0, 4));
        Check.due("2 does not", 1, y.seamstress(2, 4));
        y.lay(0, 1);
        Check.due("then 2, the lowest asleep", 0, y.seamstress(2, 4));
    }

    private static void layingWakesTheSixthIfSheAloneSleeps() {
        SewingPiles x = Rooms.asleep(6);
        for (int who = 0; who < 5; who++) {
            x.wake(who);
        }
        x.lay(0, 1);
        Check.due("5 wakes", 0, x.seamstress(5, 4));
    }

    /** "she has no misses then" */
    private static void wokenOneHasNoMisses() {
        SewingPiles x = Rooms.asleep(2);
        x.wake(1);
        x.pass(1);
        x.lay(1, 9);
        Check.due("0 has none", 0, x.seamstress(0, 3));
        Check.due("1, who was awake, has hers", 1, x.seamstress(1, 3));
        x.pass(1);
        x.wake(0);
        x.pass(2);
        Check.due("0 has two of three and is awake", 2, x.seamstress(0, 3));
    }

    /** "If its work is above setting 0 then [..] it is divided" */
    private static void takenWithJustTheSettingIsNotDivided() {
        dueDivided("20 at first", 20, 20, 0);
        dueDivided("the least setting", 2, 2, 0);
        dueDivided("1 with the least setting", 2, 1, 0);
        dueDivided("the greatest setting", 99, 99, 0);
        dueDivided("98", 98, 98, 0);
    }

    private static void takenWithOneAboveTheSettingIsDivided() {
        dueDivided("21 at first", 20, 21, 10);
        dueDivided("3 with the least setting", 2, 3, 1);
        dueDivided("99 with 98", 98, 99, 49);
        dueDivided("99 with the least setting", 2, 99, 49);
    }

    /** One seamstress takes the shirt; a half of 0 means that it stays whole. */
    private static void dueDivided(String what, int setting, int work, int half) {
        SewingPiles x = new SewingPiles();
        x.set(0, setting);
        x.lay(1, work);
        x.pass(1);
        Check.due(what + ": in the hand", work - half, x.shirt(0, 0));
        Check.due(what + ": how often divided", half == 0 ? 0 : 1, x.count(8));
        Check.due(what + ": shirts", half == 0 ? 1 : 2, x.count(2));
        Check.due(what + ": on her pile", half == 0 ? 0 : 1, x.seamstress(1, 1));
        Check.due(what + ": work in all", work, x.count(10));
        if (half != 0) {
            Check.due(what + ": the half", half, x.shirt(1, 0));
        }
    }

    /** "above setting 0 then": as it is when the shirt is taken, not when it was laid. */
    private static void dividedByTheSettingThen() {
        SewingPiles x = new SewingPiles();
        x.lay(1, 15);
        x.set(0, 14);
        x.pass(1);
        Check.due("the setting is lower by now", 1, x.count(8));
        SewingPiles y = new SewingPiles();
        y.lay(1, 30);
        y.set(0, 30);
        y.pass(1);
        Check.due("the setting is higher by now", 0, y.count(8));
        y.set(0, 2);
        y.pass(5);
        Check.due("what is in a hand already stays whole", 0, y.count(8));
    }

    /** "half of its work, rounded down" */
    private static void halfIsRoundedDown() {
        for (int work = 3; work <= 99; work++) {
            dueDivided("half of " + work, 2, work, work % 2 == 0 ? work / 2 : (work - 1) / 2);
        }
    }

    /** "is laid onto the pile of the seamstress who took it, and the shirt in her hand keeps the rest" */
    private static void halfIsLaidOntoThePileOfHerWhoTook() {
        SewingPiles x = new SewingPiles();
        Check.layAll(x, 0, 25, 1);
        x.pass(1);
        Check.due("1 took it from 0", 0, x.seamstress(1, 2));
        Check.due("the half lies with 1", 2, x.pile(1, 0));
        Check.due("nothing lies with 0", 0, x.seamstress(0, 1));
        Check.due("it has 12", 12, x.shirt(2, 0));
        Check.due("the hand has 13", 13, x.shirt(0, 0));
        SewingPiles y = new SewingPiles();
        y.lay(1, 20);
        y.pass(1);
        Check.layAll(y, 0, 5, 5, 21);
        y.pass(1);
        Check.due("by rule 3 it lies at the near end", 4, y.pile(0, 2));
        Check.due("the far end stays", 1, y.pile(0, 0));
    }

    private static void restInTheHandIsNotDividedAgain() {
        SewingPiles x = new SewingPiles();
        x.set(0, 2);
        x.lay(1, 99);
        x.pass(1);
        Check.due("50, above the setting, stays in the hand", 50, x.shirt(0, 0));
        Check.due("divided once", 1, x.count(8));
    }

    private static void halfIsDividedWhenItIsTaken() {
        SewingPiles x = new SewingPiles();
        x.lay(1, 85);
        x.pass(1);
        Check.due("the half", 42, x.shirt(1, 0));
        x.pass(1);
        Check.due("0 took it and keeps 21", 21, x.shirt(1, 0));
        Check.due("its half", 21, x.shirt(2, 0));
        Check.due("lies with 0", 0, x.shirt(2, 2));
        Check.due("divided twice", 2, x.count(8));
    }

    /** "Behind each laying": behind that of a half too. */
    private static void divisionWakesTheLowestSleeper() {
        SewingPiles x = Rooms.asleep(4);
        x.lay(3, 60);
        x.set(2, 20);
        Check.due("0 is awake", 0, x.seamstress(0, 4));
        x.pass(1);
        // 0 takes the 60, which wakes 1; 1 takes 30 of it, which wakes 2; 2 takes 15, not divided: 3 sleeps on.
        Check.due("1 woke", 0, x.seamstress(1, 4));
        Check.due("2 woke", 0, x.seamstress(2, 4));
        Check.due("3 sleeps", 1, x.seamstress(3, 4));
        Check.due("divided twice", 2, x.count(8));
        Check.due("3 slept one minute", 1, x.seamstress(3, 7));
    }

    /** "0: [..] 2 to 99, at first 20; 1: [..] 0 to 2, at first 0; 2: [..] 1 to 20, at first 3." */
    private static void settingsAtFirst() {
        int[] first = {20, 0, 3};
        int[] least = {2, 0, 1};
        int[] greatest = {99, 2, 20};
        for (int i = 0; i < 3; i++) {
            int setting = i;
            SewingPiles x = new SewingPiles();
            Check.due("at first", first[i], x.setting(i));
            Check.due("the least", first[i], x.set(i, least[i]));
            Check.due("the least is told", least[i], x.setting(i));
            Check.due("the greatest", least[i], x.set(i, greatest[i]));
            Check.due("the greatest is told", greatest[i], x.setting(i));
            Check.dueThrow("below the least", Check.ARGUMENT, x, () -> x.set(setting, least[setting] - 1));
            Check.dueThrow("above the greatest", Check.ARGUMENT, x, () -> x.set(setting, greatest[setting] + 1));
            for (int other = 0; other < 3; other++) {
                Check.due("the others are as at first", other == i ? greatest[i] : first[other], x.setting(other));
            }
        }
    }
}
