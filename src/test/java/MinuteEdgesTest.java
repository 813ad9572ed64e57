/**
 * The document's "A minute": each method holds one sentence of the five rules at its edge, in most of them by a pile
 * of no, one or two shirts, or by a number that is just reached or just missed.
 */
public final class MinuteEdgesTest {
    public static void main(String[] args) {
        sixActOneAfterTheOtherFrom0On();
        whatALowerOneDidIsSeen();
        whatAHigherOneWillDoIsNotSeen();
        sleeperSleeps();
        sleeperSleepsBesideHerShirts();
        wokenByALowerOneSheActsInThatMinute();
        wokenByAHigherOneSheActsInTheNext();
        workBecomesLessBySpeed();
        workThatIsJustTheSpeed();
        workThatIsOneAboveTheSpeed();
        workThatIsBelowTheSpeed();
        handIsEmptyBehindSewingAndNothingIsTaken();
        sewingComesBeforeTaking();
        ownShirtIsTakenFromTheNearEnd();
        ownShirtComesBeforeThoseOfOthers();
        ownLastShirtIsTaken();
        ownShirtEndsMisses();
        otherOnesShirtEndsMisses();
        ofTwoShirtsTheFarOneIsTaken();
        lastShirtIsLeftToItsOwner();
        lastShirtOfASleeperIsTaken();
        lastShirtOfAFullHandIsTaken();
        emptyPileOfASleeperOrAFullHandGivesNothing();
        nobodyTakesFromHerselfByRule4();
        mostShirtsOfSeveralTheLowest();
        firstBehindHerWithAWrapAround();
        mostWorkAtTheFarEndOfSeveralTheLowest();
        oneMissLessThanTheSettingIsAwake();
        asManyMissesAsTheSetting();
        moreMissesThanTheSetting();
        missesOfTheLeastSetting();
        missesOfTheGreatestSetting();
        Check.end();
    }

    /** "the seamstresses act, one after the other, from 0 on" */
    private static void sixActOneAfterTheOtherFrom0On() {
        SewingPiles x = Rooms.of(6);
        Check.layAll(x, 0, 5, 5, 5, 5, 5, 5);
        x.pass(1);
        int[] due = {5, 0, 1, 2, 3, 4};
        for (int who = 0; who < 6; who++) {
            Check.due("the shirt of " + who, due[who], x.seamstress(who, 2));
        }
        SewingPiles y = Rooms.of(6);
        Check.layAll(y, 5, 5, 5, 5, 5, 5, 5);
        y.pass(1);
        for (int who = 0; who < 5; who++) {
            Check.due("the shirt of " + who, who, y.seamstress(who, 2));
        }
        Check.due("5 has the one that was left", 5, y.seamstress(5, 2));
    }

    /** "what one does is seen by those behind her" */
    private static void whatALowerOneDidIsSeen() {
        SewingPiles x = new SewingPiles();
        x.lay(0, 1);
        x.pass(1);
        x.lay(0, 5);
        x.pass(1);
        Check.due("0 has sewn, so 1 leaves her the last shirt", SewingPiles.NONE, x.seamstress(1, 2));
        SewingPiles y = new SewingPiles();
        Check.layAll(y, 0, 5, 5);
        y.pass(1);
        Check.due("0 took, so 1 takes the last shirt", 0, y.seamstress(1, 2));
        SewingPiles z = new SewingPiles();
        z.lay(0, 40);
        z.pass(1);
        Check.due("0 laid a half, so 1 takes it", 1, z.seamstress(1, 2));
    }

    private static void whatAHigherOneWillDoIsNotSeen() {
        SewingPiles x = new SewingPiles();
        x.lay(1, 1);
        x.pass(1);
        x.lay(1, 5);
        x.pass(1);
        Check.due("1 has sewn now", 1, x.seamstress(1, 5));
        Check.due("but had her hand full when 0 took the last one", 1, x.seamstress(0, 2));
        SewingPiles y = new SewingPiles();
        y.lay(1, 40);
        y.pass(1);
        Check.due("1 laid a half now", 1, y.pile(1, 0));
        Check.due("but not when 0 missed", 1, y.seamstress(0, 8));
    }

    /** "1. If she is asleep, she sleeps." */
    private static void sleeperSleeps() {
        SewingPiles x = Rooms.asleep(2);
        x.pass(99);
        for (int who = 0; who < 2; who++) {
            Check.due("99 minutes slept", 99, x.seamstress(who, 7));
            Check.due("no miss more", 3, x.seamstress(who, 8));
            Check.due("none in a row", 0, x.seamstress(who, 3));
            Check.due("still asleep", 1, x.seamstress(who, 4));
        }
    }

    /** Only where nobody may take from others does a shirt lie long beside a sleeper. */
    private static void sleeperSleepsBesideHerShirts() {
        SewingPiles x = Rooms.asleep(2);
        x.lay(1, 1);
        Check.due("1 sleeps on", SewingPiles.NONE, x.doneAlone());
        x.wake(1);
        Check.due("awake she sews it", 2, x.doneAlone());
    }

    private static void wokenByALowerOneSheActsInThatMinute() {
        SewingPiles x = Rooms.asleep(2);
        x.lay(0, 40);
        Check.due("0 is awake, 1 sleeps", 1, x.seamstress(1, 4));
        x.pass(1);
        Check.due("1 took the half", 1, x.seamstress(1, 2));
        Check.due("and slept no minute", 0, x.seamstress(1, 7));
    }

    private static void wokenByAHigherOneSheActsInTheNext() {
        SewingPiles x = Rooms.asleep(3);
        x.wake(2);
        x.lay(2, 40);
        Check.due("0 is awake, 1 sleeps", 1, x.seamstress(1, 4));
        x.pass(1);
        Check.due("2 took and laid the half", 1, x.pile(2, 0));
        Check.due("1 is awake by that", 0, x.seamstress(1, 4));
        Check.due("but slept in that minute", 1, x.seamstress(1, 7));
        x.pass(1);
        Check.due("she acts in the next one: 0 has the half, so she misses", 1, x.seamstress(1, 3));
        Check.due("and sleeps no more", 1, x.seamstress(1, 7));
        SewingPiles y = new SewingPiles();
        y.set(2, 1);
        y.lay(1, 40);
        y.pass(1);
        Check.due("0 missed and slept before 1 laid the half", 1, y.seamstress(0, 8));
        Check.due("and is awake behind it", 0, y.seamstress(0, 4));
        Check.due("but did not act again", SewingPiles.NONE, y.seamstress(0, 2));
        y.pass(1);
        Check.due("she takes it in the next minute", 1, y.seamstress(0, 2));
        Check.due("and slept no minute", 0, y.seamstress(0, 7));
    }

    /** "2. If she has a shirt in her hand, its work becomes less by her speed." */
    private static void workBecomesLessBySpeed() {
        for (int speed = 1; speed <= 9; speed++) {
            SewingPiles x = new SewingPiles();
            x.set(0, 99);
            x.speed(1, speed);
            x.lay(1, 99);
            x.pass(1);
            Check.due("none in the minute of taking", 99, x.shirt(0, 0));
            x.pass(1);
            Check.due("less by the speed", 99 - speed, x.shirt(0, 0));
            x.speed(1, 1);
            x.pass(1);
            Check.due("by the speed that she has now", 98 - speed, x.shirt(0, 0));
        }
    }

    /** "If there is none left, it is sewn" */
    private static void workThatIsJustTheSpeed() {
        for (int speed = 1; speed <= 9; speed++) {
            dueBehindOneMinuteOfSewing(speed, speed, 0);
        }
    }

    private static void workThatIsOneAboveTheSpeed() {
        for (int speed = 1; speed <= 9; speed++) {
            dueBehindOneMinuteOfSewing(speed, speed + 1, 1);
        }
    }

    private static void workThatIsBelowTheSpeed() {
        dueBehindOneMinuteOfSewing(9, 8, 0);
        dueBehindOneMinuteOfSewing(9, 1, 0);
        dueBehindOneMinuteOfSewing(2, 1, 0);
    }

    private static void dueBehindOneMinuteOfSewing(int speed, int work, int left) {
        SewingPiles x = new SewingPiles();
        x.speed(1, speed);
        x.lay(1, work);
        x.pass(1);
        Check.due("sewn of " + work + " with " + speed, left == 0 ? 1 : 0, x.pass(1));
        Check.due("left of " + work + " with " + speed, left, x.shirt(0, 0));
        Check.due("left in all", left, x.count(10));
        Check.due("where it is", left == 0 ? 2 : 1, x.shirt(0, 1));
        Check.due("in her hand", left == 0 ? SewingPiles.NONE : 0, x.seamstress(1, 2));
        Check.due("that she sewed", left == 0 ? 1 : 0, x.seamstress(1, 5));
    }

    /** "it is sewn, and her hand is empty" */
    private static void handIsEmptyBehindSewingAndNothingIsTaken() {
        SewingPiles x = new SewingPiles();
        Check.layAll(x, 1, 1, 1, 1);
        x.pass(2);
        Check.due("0 took and has sewn", 1, x.seamstress(0, 5));
        Check.due("1 too", 1, x.seamstress(1, 5));
        Check.due("one lies still", 1, x.count(4));
        Check.due("no hand holds one", 0, x.count(5));
        Check.due("nobody missed", 0, x.count(7));
        x.pass(1);
        Check.due("the owner takes it", 1, x.seamstress(1, 2));
    }

    private static void sewingComesBeforeTaking() {
        SewingPiles x = new SewingPiles();
        Check.layAll(x, 0, 9, 9, 9, 9);
        x.pass(9);
        Check.due("two are in hands", 2, x.count(5));
        Check.due("two lie still", 2, x.count(4));
        Check.due("with one minute left", 1, x.shirt(3, 0));
    }

    /** "3. If a shirt lies on her pile, she takes the one at the near end" */
    private static void ownShirtIsTakenFromTheNearEnd() {
        SewingPiles x = new SewingPiles();
        x.lay(0, 20);
        x.pass(1);
        for (int i = 0; i < 16; i++) {
            x.lay(1, 20);
        }
        x.pass(1);
        Check.due("the 16th", 16, x.seamstress(1, 2));
        Check.due("15 lie", 15, x.seamstress(1, 1));
        Check.due("the far one", 1, x.pile(1, 0));
        Check.due("the near one", 15, x.pile(1, 14));
        Check.due("no 16th", SewingPiles.NONE, x.pile(1, 15));
        Check.due("that is not taken from another one", 0, x.seamstress(1, 6));
    }

    private static void ownShirtComesBeforeThoseOfOthers() {
        SewingPiles x = new SewingPiles();
        Check.layAll(x, 1, 20, 20, 20);
        x.lay(0, 1);
        x.pass(1);
        Check.due("her only one", 3, x.seamstress(0, 2));
        Check.due("nothing is taken from others", 0, x.count(6));
    }

    private static void ownLastShirtIsTaken() {
        SewingPiles x = new SewingPiles();
        x.lay(0, 9);
        x.pass(1);
        Check.due("0 has it", 0, x.seamstress(0, 2));
        Check.due("her pile is empty", 0, x.seamstress(0, 1));
        Check.due("with no shirt at the far end", SewingPiles.NONE, x.pile(0, 0));
    }

    /** "3. [..] she has no misses then." */
    private static void ownShirtEndsMisses() {
        SewingPiles x = new SewingPiles();
        x.pass(2);
        Check.due("two misses", 2, x.seamstress(1, 3));
        x.lay(1, 1);
        x.pass(1);
        Check.due("none behind taking", 0, x.seamstress(1, 3));
        Check.due("but two so far", 2, x.seamstress(1, 8));
        x.pass(3);
        Check.due("two in a row again", 2, x.seamstress(1, 3));
        Check.due("awake", 0, x.seamstress(1, 4));
        x.pass(1);
        Check.due("asleep behind the third", 1, x.seamstress(1, 4));
    }

    /** "4. [..] she has no misses then." */
    private static void otherOnesShirtEndsMisses() {
        SewingPiles x = new SewingPiles();
        x.pass(2);
        Check.layAll(x, 1, 1, 1);
        x.pass(1);
        Check.due("taken from 1", 1, x.seamstress(0, 6));
        Check.due("no misses behind it", 0, x.seamstress(0, 3));
        x.pass(3);
        Check.due("two in a row again", 2, x.seamstress(0, 3));
        Check.due("awake", 0, x.seamstress(0, 4));
    }

    /** "she takes the shirt at the far end of that pile"; "She can take from a pile with at least 2 shirts" */
    private static void ofTwoShirtsTheFarOneIsTaken() {
        SewingPiles x = new SewingPiles();
        Check.layAll(x, 1, 5, 6);
        Check.due("from 1, who is awake with an empty hand", 1, x.choice(0));
        x.pass(1);
        Check.due("0 has the far one", 0, x.seamstress(0, 2));
        Check.due("1 has the near one", 1, x.seamstress(1, 2));
        SewingPiles y = Rooms.of(3);
        Check.layAll(y, 2, 5, 6);
        y.pass(1);
        Check.due("0 has the far one", 0, y.seamstress(0, 2));
        Check.due("1 leaves the last one", SewingPiles.NONE, y.seamstress(1, 2));
        Check.due("2 has it", 1, y.seamstress(2, 2));
    }

    /** "(otherwise this last shirt is left to its owner)" */
    private static void lastShirtIsLeftToItsOwner() {
        SewingPiles x = Rooms.of(6);
        x.lay(5, 9);
        for (int who = 0; who < 5; who++) {
            Check.due("nobody would take it", SewingPiles.NONE, x.choice(who));
        }
        x.pass(1);
        for (int who = 0; who < 5; who++) {
            Check.due("all miss", 1, x.seamstress(who, 3));
        }
        Check.due("but the owner", 0, x.seamstress(5, 2));
    }

    /** "and from one with 1 shirt, if its owner is asleep" */
    private static void lastShirtOfASleeperIsTaken() {
        SewingPiles x = Rooms.asleep(2);
        x.lay(1, 9);
        Check.due("0 would take it", 1, x.choice(0));
        x.pass(1);
        Check.due("0 took it", 0, x.seamstress(0, 2));
        Check.due("the pile is empty", 0, x.seamstress(1, 1));
        Check.due("its owner sleeps", 1, x.seamstress(1, 4));
    }

    /** "or has a shirt in her hand" */
    private static void lastShirtOfAFullHandIsTaken() {
        SewingPiles x = new SewingPiles();
        x.lay(1, 9);
        x.pass(1);
        Check.due("nothing yet", SewingPiles.NONE, x.choice(0));
        x.lay(1, 9);
        Check.due("0 would take it", 1, x.choice(0));
        x.pass(1);
        Check.due("0 took it", 1, x.seamstress(0, 2));
        Check.due("the pile is empty", 0, x.seamstress(1, 1));
    }

    private static void emptyPileOfASleeperOrAFullHandGivesNothing() {
        SewingPiles x = Rooms.asleep(2);
        Check.due("of a sleeper", SewingPiles.NONE, x.choice(0));
        x.wake(1);
        x.lay(1, 9);
        x.pass(1);
        Check.due("0 woke and missed", 1, x.seamstress(0, 3));
        for (int how = 0; how <= 2; how++) {
            x.set(1, how);
            Check.due("of a full hand", SewingPiles.NONE, x.choice(0));
        }
    }

    /** "If there is another seamstress from whose pile she can take" */
    private static void nobodyTakesFromHerselfByRule4() {
        SewingPiles x = Rooms.of(3);
        Check.layAll(x, 1, 9, 9, 9, 9);
        for (int how = 0; how <= 2; how++) {
            x.set(1, how);
            Check.due("not her own", SewingPiles.NONE, x.choice(1));
            Check.due("0 would take from her", 1, x.choice(0));
            Check.due("2 too", 1, x.choice(2));
        }
    }

    /** Piles of 2, 3, 1, 3, 0 and 3 shirts; at the far ends 8, 8, 99, 8, none and 9. */
    private static SewingPiles roomOfSixPiles() {
        SewingPiles x = Rooms.of(6);
        Check.layAll(x, 0, 8, 99);
        Check.layAll(x, 1, 8, 1, 1);
        Check.layAll(x, 2, 99);
        Check.layAll(x, 3, 8, 50, 50);
        Check.layAll(x, 5, 9, 1, 1);
        return x;
    }

    private static void dueChoices(String what, int[] due, SewingPiles x) {
        for (int who = 0; who < due.length; who++) {
            Check.due(what + ", " + who, due[who], x.choice(who));
        }
    }

    /** "0: the one with the most shirts, of several of these that of the lowest number" */
    private static void mostShirtsOfSeveralTheLowest() {
        SewingPiles x = roomOfSixPiles();
        dueChoices("three of 3", new int[] {1, 3, 1, 1, 1, 1}, x);
        x.lay(5, 1);
        dueChoices("one of 4", new int[] {5, 5, 5, 5, 5, 1}, x);
        x.lay(0, 1);
        x.lay(0, 1);
        dueChoices("two of 4", new int[] {5, 0, 0, 0, 0, 0}, x);
    }

    /** "1: that of the one who comes first behind her (behind the last one comes 0)" */
    private static void firstBehindHerWithAWrapAround() {
        SewingPiles x = roomOfSixPiles();
        x.set(1, 1);
        dueChoices("behind her", new int[] {1, 3, 3, 5, 5, 0}, x);
        SewingPiles y = Rooms.of(6);
        y.set(1, 1);
        Check.layAll(y, 4, 9, 9);
        dueChoices("once round", new int[] {4, 4, 4, 4, -1, 4}, y);
        Check.layAll(y, 3, 9, 9);
        dueChoices("nearly once round", new int[] {3, 3, 3, 4, 3, 3}, y);
        SewingPiles z = new SewingPiles();
        z.set(1, 1);
        Check.layAll(z, 0, 9, 9);
        dueChoices("behind 1, the last of two", new int[] {-1, 0}, z);
    }

    /** "2: the one whose shirt at the far end has the most work, of several of these that of the lowest number" */
    private static void mostWorkAtTheFarEndOfSeveralTheLowest() {
        SewingPiles x = roomOfSixPiles();
        x.set(1, 2);
        dueChoices("the far end with 9, then three with 8", new int[] {5, 5, 5, 5, 5, 0}, x);
        x.lay(2, 1);
        dueChoices("the 99 of 2 can be taken", new int[] {2, 2, 5, 2, 2, 2}, x);
        SewingPiles y = Rooms.of(3);
        y.set(1, 2);
        Check.layAll(y, 1, 1, 99);
        Check.layAll(y, 2, 1, 1);
        dueChoices("1 and 1 at the far ends", new int[] {1, 2, 1}, y);
    }

    /** "5. Otherwise she has one miss more." */
    private static void oneMissLessThanTheSettingIsAwake() {
        SewingPiles x = new SewingPiles();
        x.pass(2);
        Check.due("two of three", 2, x.seamstress(0, 3));
        Check.due("two so far", 2, x.seamstress(0, 8));
        Check.due("awake", 0, x.seamstress(0, 4));
    }

    /** "If she has as many misses as setting 2 then [..] she falls asleep, and has no misses." */
    private static void asManyMissesAsTheSetting() {
        SewingPiles x = new SewingPiles();
        x.pass(3);
        Check.due("none in a row", 0, x.seamstress(0, 3));
        Check.due("three so far", 3, x.seamstress(0, 8));
        Check.due("asleep", 1, x.seamstress(0, 4));
        Check.due("no minute slept yet", 0, x.seamstress(0, 7));
    }

    /** "or more" */
    private static void moreMissesThanTheSetting() {
        SewingPiles x = new SewingPiles();
        x.set(2, 20);
        x.pass(9);
        x.set(2, 9);
        Check.due("setting is no miss", 0, x.count(9));
        Check.due("nine in a row", 9, x.seamstress(0, 3));
        x.set(2, 4);
        x.pass(1);
        Check.due("asleep with the tenth", 2, x.count(9));
        Check.due("none in a row", 0, x.seamstress(0, 3));
        Check.due("ten so far", 10, x.seamstress(0, 8));
    }

    private static void missesOfTheLeastSetting() {
        SewingPiles x = new SewingPiles();
        x.set(2, 1);
        Check.due("awake", 0, x.count(9));
        x.pass(1);
        Check.due("asleep with the first", 2, x.count(9));
        Check.due("one miss each", 2, x.count(7));
    }

    private static void missesOfTheGreatestSetting() {
        SewingPiles x = new SewingPiles();
        x.set(2, 20);
        x.pass(19);
        Check.due("awake with 19", 0, x.count(9));
        Check.due("in a row", 19, x.seamstress(1, 3));
        x.pass(1);
        Check.due("asleep with 20", 2, x.count(9));
        Check.due("none in a row", 0, x.seamstress(1, 3));
    }
}
