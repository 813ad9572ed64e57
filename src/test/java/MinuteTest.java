/** The rules of a minute, as promise 6 lets it pass: sleeping, sewing, taking, dividing, missing. */
public final class MinuteTest {
    public static void main(String[] args) {
        takesFromBothEnds();
        lastShirtIsLeftToItsOwner();
        lastShirtOfOneWithFullHand();
        lastShirtOfSleeper();
        whatOneDoesIsSeenBehindHer();
        missesAndSleep();
        takingEndsMisses();
        divides();
        dividingWakesOneBehind();
        dividingWakesOneBefore();
        dividesShirtOfAnother();
        dividesTheLastOfAnother();
        sewsNoMoreThanThereIs();
        Check.end();
    }

    private static void takesFromBothEnds() {
        SewingPiles x = new SewingPiles();
        Check.layAll(x, 0, 9, 4, 6, 3);
        x.pass(1);
        Check.due("the owner takes the near end", 3, x.seamstress(0, 2));
        Check.due("the other one the far end", 0, x.seamstress(1, 2));
        Check.due("what was at place 1 is at the far end", 1, x.pile(0, 0));
        Check.due("then comes 2", 2, x.pile(0, 1));
        Check.due("two are left", SewingPiles.NONE, x.pile(0, 2));
        Check.due("0 took none from others", 0, x.seamstress(0, 6));
        Check.due("1 took one", 1, x.seamstress(1, 6));
        Check.due("in her hand", 1, x.shirt(0, 1));
        Check.due("in hers", 1, x.shirt(0, 2));
        Check.due("no work is done in the minute of taking", 9, x.shirt(0, 0));
        x.pass(1);
        Check.due("then some", 8, x.shirt(0, 0));
    }

    private static void lastShirtIsLeftToItsOwner() {
        SewingPiles x = new SewingPiles();
        x.lay(1, 5);
        x.pass(1);
        Check.due("0 leaves it", SewingPiles.NONE, x.seamstress(0, 2));
        Check.due("and misses", 1, x.seamstress(0, 3));
        Check.due("the owner takes it", 0, x.seamstress(1, 2));
        Check.due("that is nothing taken from another one", 0, x.count(6));
    }

    private static void lastShirtOfOneWithFullHand() {
        SewingPiles x = new SewingPiles();
        Check.layAll(x, 0, 5, 7);
        x.pass(1);
        Check.due("0 has the near one", 1, x.seamstress(0, 2));
        Check.due("1 takes the last one", 0, x.seamstress(1, 2));
        Check.due("the pile is empty", 0, x.seamstress(0, 1));
    }

    private static void lastShirtOfSleeper() {
        SewingPiles x = new SewingPiles();
        x.pass(3);
        x.lay(1, 5);
        x.pass(1);
        Check.due("0 takes it from the sleeper", 0, x.seamstress(0, 2));
        Check.due("from another one", 1, x.seamstress(0, 6));
        Check.due("1 sleeps", 1, x.seamstress(1, 7));
    }

    private static void whatOneDoesIsSeenBehindHer() {
        SewingPiles x = new SewingPiles();
        x.lay(0, 1);
        x.pass(1);
        x.lay(0, 5);
        x.pass(1);
        Check.due("0 has sewn and her hand is empty", SewingPiles.NONE, x.seamstress(0, 2));
        Check.due("so 1 leaves the last shirt", SewingPiles.NONE, x.seamstress(1, 2));
        x.pass(1);
        Check.due("and 0 takes it herself", 1, x.seamstress(0, 2));
    }

    private static void missesAndSleep() {
        SewingPiles x = new SewingPiles();
        x.pass(2);
        Check.due("two misses in a row", 2, x.seamstress(1, 3));
        Check.due("still awake", 0, x.seamstress(1, 4));
        x.pass(1);
        Check.due("no misses in a row", 0, x.seamstress(1, 3));
        Check.due("asleep behind three", 1, x.seamstress(1, 4));
        Check.due("three misses so far", 3, x.seamstress(1, 8));
        Check.due("the minute of falling asleep is no slept one", 0, x.seamstress(1, 7));
        x.pass(9);
        Check.due("nine are", 9, x.seamstress(1, 7));
        Check.due("no more misses", 6, x.count(7));
    }

    private static void takingEndsMisses() {
        SewingPiles x = new SewingPiles();
        x.pass(2);
        Check.layAll(x, 0, 1, 3);
        x.pass(1);
        Check.due("0 took by rule 3", 0, x.seamstress(0, 3));
        Check.due("1 took by rule 4", 0, x.seamstress(1, 3));
        x.pass(1);
        Check.due("1 has sewn", 1, x.seamstress(1, 5));
        Check.due("sewing is no miss", 0, x.seamstress(1, 3));
        x.pass(2);
        Check.due("two misses of 1, and awake", 2, x.seamstress(1, 3));
    }

    private static void divides() {
        SewingPiles x = new SewingPiles();
        x.lay(1, 21);
        x.lay(0, 20);
        x.pass(1);
        Check.due("20 is not above 20", 20, x.shirt(1, 0));
        Check.due("the hand keeps the rest", 11, x.shirt(0, 0));
        Check.due("the new one has the half, rounded down", 10, x.shirt(2, 0));
        Check.due("it lies", 0, x.shirt(2, 1));
        Check.due("on the pile of her who took", 1, x.shirt(2, 2));
        Check.due("at its near end", 2, x.pile(1, 0));
        Check.due("divided once", 1, x.count(8));
        Check.due("three shirts", 3, x.count(2));
        x.set(0, 99);
        x.lay(0, 99);
        x.pass(22);
        Check.due("99 is not above 99", 1, x.count(8));
    }

    private static void dividingWakesOneBehind() {
        SewingPiles x = new SewingPiles();
        x.hire(1);
        x.pass(3);
        x.lay(0, 90);
        x.pass(1);
        Check.due("0 has 45", 45, x.shirt(0, 0));
        Check.due("1 woke and takes the other 45, divided to 23", 23, x.shirt(1, 0));
        Check.due("2 woke by that and takes 22, divided to 11", 11, x.shirt(2, 0));
        Check.due("all are awake", 0, x.count(9));
        Check.due("nobody slept in that minute", 0, x.seamstress(2, 7));
        Check.due("divided three times", 3, x.count(8));
        Check.due("the work is the same", 90, x.count(10));
    }

    private static void dividingWakesOneBefore() {
        SewingPiles x = new SewingPiles();
        x.set(2, 1);
        x.lay(1, 30);
        x.pass(1);
        Check.due("0 fell asleep and was woken behind her turn", 0, x.seamstress(0, 4));
        Check.due("with one miss so far", 1, x.seamstress(0, 8));
        x.pass(1);
        Check.due("she takes the half in the next minute", 1, x.seamstress(0, 2));
        Check.due("and slept no minute", 0, x.seamstress(0, 7));
    }

    private static void dividesShirtOfAnother() {
        SewingPiles x = new SewingPiles();
        Check.layAll(x, 0, 41, 8);
        x.pass(1);
        Check.due("1 took the 41", 21, x.shirt(0, 0));
        Check.due("the half is 20", 20, x.shirt(2, 0));
        Check.due("and lies on the pile of 1", 1, x.shirt(2, 2));
        Check.due("taken from another one once", 1, x.count(6));
        Check.dueShare("two were taken", 0.5, x.takenShare());
    }

    private static void dividesTheLastOfAnother() {
        SewingPiles x = new SewingPiles();
        x.lay(1, 9);
        x.pass(1);
        x.lay(1, 30);
        x.lay(0, 1);
        x.pass(1);
        Check.due("0 took her own", 2, x.seamstress(0, 2));
        x.pass(1);
        Check.due("0 has sewn it", 1, x.seamstress(0, 5));
        x.pass(1);
        Check.due("0 took the 30 and divided it", 15, x.shirt(1, 0));
        Check.due("onto her own pile", 0, x.shirt(3, 2));
    }

    private static void sewsNoMoreThanThereIs() {
        SewingPiles x = new SewingPiles();
        x.speed(0, 9);
        x.lay(0, 10);
        x.pass(2);
        Check.due("1 is left", 1, x.shirt(0, 0));
        Check.due("in her hand still", 0, x.seamstress(0, 2));
        x.pass(1);
        Check.due("none, not -8", 0, x.shirt(0, 0));
        Check.due("sewn", 2, x.shirt(0, 1));
        Check.due("by 0", 0, x.shirt(0, 2));
        Check.due("the work of all", 0, x.count(10));
        x.lay(0, 9);
        x.pass(2);
        Check.due("9 in one minute", 2, x.shirt(1, 1));
    }
}
