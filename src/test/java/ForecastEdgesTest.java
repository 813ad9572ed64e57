/** Promises 21 to 27 at their edges: no minute and the most minutes, nothing to divide by, seven seamstresses. */
public final class ForecastEdgesTest {
    public static void main(String[] args) {
        doneInOfNoShirts();
        doneInOfOneMinute();
        doneInCountsPilesAndHands();
        doneInIsTheFirstTime();
        doneInOfAFullRoom();
        doneAloneOfNoShirts();
        doneAloneIsWithoutRule4();
        doneAloneIsNoneBesideASleeper();
        doneAloneHasMissesAndSleep();
        doneAloneOfTheMostMinutes();
        doneAloneIsDividedUpTo120Shirts();
        doneWithNoShirts();
        doneWithIsAsHireAndDoneIn();
        doneWithOneWhoIsAwake();
        doneWithASeventh();
        doneWithASeventhBehindWhomComes0();
        doneWithWakesNobody();
        ifOneMinutePassed();
        if200MinutesPassed();
        ifPassedIsOnlyWhatIsInThem();
        ifPassedCountsMissesUntilSleep();
        ifPassedIsAsPass();
        takenShareWithoutAny();
        takenShareOfAllAndOfNone();
        takenShareCountsHalvesThatAreTaken();
        evennessWithoutWork();
        evennessOfNoneAndOfAll();
        evennessOfSix();
        evennessOfHandsAlone();
        digestOfANewObject();
        digestAtTheLimits();
        digestOf120Shirts();
        digestTellsTheSnapshot();
        digestTellsTheBuffer();
        forecastsChangeNothing();
        Check.end();
    }

    /** "Returns behind how many minutes, 0 to 2000, there is no shirt on a pile or in a hand for the first time" */
    private static void doneInOfNoShirts() {
        SewingPiles x = new SewingPiles();
        Check.due("a new object", 0, x.doneIn());
        Check.due("all asleep", 0, Rooms.asleep(6).doneIn());
        Check.due("120 are sewn", 0, Rooms.withSewnShirts(120).doneIn());
    }

    private static void doneInOfOneMinute() {
        SewingPiles x = new SewingPiles();
        x.lay(1, 1);
        Check.due("to take and to sew", 2, x.doneIn());
        x.pass(1);
        Check.due("to sew", 1, x.doneIn());
        x.pass(1);
        Check.due("done", 0, x.doneIn());
    }

    private static void doneInCountsPilesAndHands() {
        SewingPiles x = new SewingPiles();
        x.lay(1, 9);
        Check.due("on a pile alone", 10, x.doneIn());
        x.pass(1);
        Check.due("in a hand alone", 9, x.doneIn());
        Check.layAll(x, 1, 1, 1);
        Check.due("on a pile and in a hand", 9, x.doneIn());
    }

    private static void doneInIsTheFirstTime() {
        SewingPiles x = new SewingPiles();
        x.lay(0, 5);
        x.pass(50);
        Check.due("not the minutes that are over", 0, x.doneIn());
        x.lay(0, 5);
        Check.due("from now on", 6, x.doneIn());
        for (int left = 5; left >= 0; left--) {
            x.pass(1);
            Check.due("one less each minute", left, x.doneIn());
        }
    }

    /** So many seamstresses; each has a shirt of 99 in her hand and 16 on her pile; none will be divided. */
    private static SewingPiles fullRoom(int seamstresses) {
        SewingPiles x = Rooms.of(seamstresses);
        x.set(0, 99);
        for (int who = 0; who < seamstresses; who++) {
            x.lay(who, 99);
        }
        x.pass(1);
        for (int who = 0; who < seamstresses; who++) {
            for (int i = 0; i < 16; i++) {
                x.lay(who, 99);
            }
        }
        return x;
    }

    private static void doneInOfAFullRoom() {
        SewingPiles x = fullRoom(6);
        Check.due("a minute for each of 17 * 99 and for 16 takings", 17 * 99 + 16, x.doneIn());
        Check.due("nobody needs to take from others", 17 * 99 + 16, x.doneAlone());
        for (int who = 0; who < 6; who++) {
            x.speed(who, 9);
        }
        Check.due("11 minutes for each of 17", 17 * 11 + 16, x.doneIn());
    }

    private static void doneAloneOfNoShirts() {
        Check.due("a new object", 0, new SewingPiles().doneAlone());
        Check.due("all asleep", 0, Rooms.asleep(6).doneAlone());
        Check.due("120 are sewn", 0, Rooms.withSewnShirts(120).doneAlone());
    }

    /** "but with a rule 4 by which nobody can ever take" */
    private static void doneAloneIsWithoutRule4() {
        SewingPiles x = new SewingPiles();
        Check.layAll(x, 0, 5, 5);
        Check.due("one by one", 12, x.doneAlone());
        Check.due("both at once", 6, x.doneIn());
        x.pass(1);
        Check.due("what was taken stays", 5, x.doneAlone());
        x.lay(0, 7);
        x.pass(1);
        x.lay(0, 7);
        Check.due("not the last one of a full hand either", 4 + 16, x.doneAlone());
    }

    /** "NONE if not within these": a shirt beside one who sleeps is never taken. */
    private static void doneAloneIsNoneBesideASleeper() {
        SewingPiles x = Rooms.asleep(6);
        for (int laid = 1; laid <= 5; laid++) {
            x.lay(5, 1);
            Check.due("5 sleeps", SewingPiles.NONE, x.doneAlone());
        }
        x.lay(5, 1);
        Check.due("she wakes with the sixth", 12, x.doneAlone());
        x.undo();
        x.wake(5);
        Check.due("woken", 10, x.doneAlone());
    }

    /** Without rule 4 one who finds nothing comes to rule 5: she sleeps, and is woken in place of a higher one. */
    private static void doneAloneHasMissesAndSleep() {
        SewingPiles x = Rooms.asleep(4);
        x.lay(3, 40);
        x.lay(2, 5);
        x.wake(3);
        Check.due("0 and 1 are awake when 3 divides, so 2 wakes", 42, x.doneAlone());
        x.set(2, 2);
        Check.due("with one miss they are awake", 42, x.doneAlone());
        x.set(2, 1);
        Check.due("0 sleeps by then and wakes in place of 2", SewingPiles.NONE, x.doneAlone());
    }

    private static void doneAloneOfTheMostMinutes() {
        SewingPiles x = fullRoom(2);
        Check.due("17 shirts of 99", 17 * 99 + 16, x.doneAlone());
        x.set(0, 2);
        Check.due("34 came, so each of the two divides 43 times", 17 * 99 + 16 + 43, x.doneAlone());
        SewingPiles y = new SewingPiles();
        y.set(0, 99);
        y.lay(0, 99);
        y.pass(1);
        for (int i = 0; i < 16; i++) {
            y.lay(0, 99);
        }
        y.set(0, 2);
        // 99 keeps 50, 49 keeps 25, then 12, 6, 3, 2 and 1.
        Check.due("seven takings for each of 16", 17 * 99 + 16 * 7, y.doneAlone());
    }

    /** 110 came; the 16 of 99 are divided ten times at most. */
    private static void doneAloneIsDividedUpTo120Shirts() {
        SewingPiles x = Rooms.withSewnShirts(94);
        x.wake(0);
        for (int i = 0; i < 16; i++) {
            x.lay(0, 99);
        }
        x.set(0, 2);
        Check.due("16 takings and 10 more", 16 * 99 + 26, x.doneAlone());
        x.set(0, 99);
        Check.due("16 takings", 16 * 99 + 16, x.doneAlone());
    }

    private static void doneWithNoShirts() {
        for (int speed = 1; speed <= 9; speed++) {
            Check.due("a new object", 0, new SewingPiles().doneWith(speed));
            Check.due("six", 0, Rooms.of(6).doneWith(speed));
        }
    }

    private static SewingPiles busyRoom(int seamstresses, int how) {
        SewingPiles x = Rooms.of(seamstresses);
        x.set(1, how);
        Check.layAll(x, 0, 80, 3, 41, 9);
        x.pass(3);
        Check.layAll(x, seamstresses - 1, 12, 99, 20);
        x.pass(2);
        Check.layAll(x, 1, 30, 31, 7);
        return x;
    }

    /** "the speed of a seamstress who comes now as by hire()" */
    private static void doneWithIsAsHireAndDoneIn() {
        for (int seamstresses = 2; seamstresses <= 5; seamstresses++) {
            for (int speed = 1; speed <= 9; speed++) {
                SewingPiles x = busyRoom(seamstresses, speed % 3);
                int due = x.doneWith(speed);
                Check.due("nobody came", seamstresses, x.count(1));
                x.hire(speed);
                Check.due("of " + seamstresses + " and one of " + speed, x.doneIn(), due);
            }
        }
    }

    private static void doneWithOneWhoIsAwake() {
        SewingPiles x = Rooms.asleep(2);
        Check.layAll(x, 0, 9, 9, 9);
        Check.due("two of three at once", 20, x.doneIn());
        Check.due("three at once", 10, x.doneWith(1));
        Check.due("three at once, one of them fast", 10, x.doneWith(9));
    }

    /** "(also if there are 6)" */
    private static void doneWithASeventh() {
        SewingPiles x = Rooms.of(6);
        for (int i = 0; i < 7; i++) {
            x.lay(3, 9);
        }
        Check.due("six at once, then one", 20, x.doneIn());
        for (int speed = 1; speed <= 9; speed++) {
            Check.due("seven at once", 10, x.doneWith(speed));
        }
        Check.due("six are there", 6, x.count(1));
        Check.dueThrow("and no seventh", Check.BOUNDS, x, () -> x.seamstress(6, 0));
        Check.dueThrow("nor can one come", Check.STATE, x, () -> x.hire(1));
        x.lay(3, 9);
        Check.due("an eighth is for her, if she is fast", 10, x.doneWith(9));
        Check.due("or for whoever is ready", 20, x.doneWith(1));
    }

    private static void doneWithASeventhBehindWhomComes0() {
        SewingPiles x = Rooms.of(6);
        x.set(0, 99);
        for (int who = 0; who < 6; who++) {
            x.lay(who, 20);
        }
        x.pass(1);
        x.lay(0, 30);
        x.lay(5, 5);
        x.set(1, 1);
        Check.due("she takes the 30 of 0 first", 31, x.doneWith(1));
        x.set(1, 2);
        Check.due("and that with the most work", 31, x.doneWith(1));
        x.set(1, 0);
        Check.due("and that of the lowest number", 31, x.doneWith(1));
        SewingPiles y = Rooms.of(6);
        y.set(0, 99);
        for (int who = 0; who < 6; who++) {
            y.lay(who, 20);
        }
        y.pass(1);
        y.lay(0, 5);
        y.lay(5, 30);
        y.set(1, 1);
        // She takes the 5 of 0 in the first minute and the 30 of 5 in the seventh.
        Check.due("she takes the 5 of 0 first", 37, y.doneWith(1));
        y.set(1, 2);
        Check.due("that with the most work", 31, y.doneWith(1));
    }

    private static void doneWithWakesNobody() {
        SewingPiles x = Rooms.asleep(6);
        x.doneWith(5);
        Check.due("all sleep on", 6, x.count(9));
        x.lay(5, 9);
        x.lay(5, 9);
        x.lay(5, 9);
        x.lay(5, 9);
        Check.due("four are awake and have one each", 10, x.doneWith(1));
        x.undo();
        x.undo();
        x.undo();
        Check.due("one is", 10, x.doneWith(1));
        Check.due("five sleep", 5, x.count(9));
    }

    private static void dueIfPassed(String what, int minutes, int[] due, SewingPiles x) {
        for (int number = 0; number < 4; number++) {
            Check.due(what + ", number " + number, due[number], x.ifPassed(minutes, number));
        }
    }

    /** "minutes: 1 to 200" */
    private static void ifOneMinutePassed() {
        SewingPiles x = new SewingPiles();
        dueIfPassed("a new object", 1, new int[] {0, 0, 2, 0}, x);
        Check.layAll(x, 0, 1, 1);
        dueIfPassed("taking", 1, new int[] {0, 1, 0, 2}, x);
        x.pass(1);
        dueIfPassed("sewing", 1, new int[] {2, 0, 0, 0}, x);
    }

    private static void if200MinutesPassed() {
        SewingPiles x = new SewingPiles();
        x.set(0, 99);
        Check.layAll(x, 0, 99, 99);
        Check.layAll(x, 1, 99, 99);
        dueIfPassed("199", 199, new int[] {2, 0, 0, 2}, x);
        dueIfPassed("200", 200, new int[] {4, 0, 0, 0}, x);
        dueIfPassed("100", 100, new int[] {2, 0, 0, 198}, x);
        dueIfPassed("99", 99, new int[] {0, 0, 0, 200}, x);
        Check.dueThrow("201", Check.ARGUMENT, x, () -> x.ifPassed(201, 0));
        Check.dueThrow("0", Check.ARGUMENT, x, () -> x.ifPassed(0, 0));
    }

    /** "0: shirts that are sewn in them; 1: shirts that are taken [..] in them; 2: misses in them" */
    private static void ifPassedIsOnlyWhatIsInThem() {
        SewingPiles x = new SewingPiles();
        Check.layAll(x, 0, 2, 2);
        x.pass(5);
        Check.due("two were sewn before", 2, x.count(3));
        Check.due("one was taken from 0 before", 1, x.count(6));
        Check.due("four were missed before", 4, x.count(7));
        dueIfPassed("in the next minute", 1, new int[] {0, 0, 2, 0}, x);
        Check.layAll(x, 1, 3, 3);
        dueIfPassed("in the next four", 4, new int[] {2, 1, 0, 0}, x);
    }

    private static void ifPassedCountsMissesUntilSleep() {
        SewingPiles x = new SewingPiles();
        Check.due("three each", 6, x.ifPassed(200, 2));
        Check.due("two each", 4, x.ifPassed(2, 2));
        x.set(2, 20);
        Check.due("twenty each", 40, x.ifPassed(200, 2));
        x.set(2, 1);
        Check.due("one each", 2, x.ifPassed(200, 2));
        x.pass(1);
        Check.due("sleepers have none", 0, x.ifPassed(200, 2));
    }

    private static void ifPassedIsAsPass() {
        for (int how = 0; how <= 2; how++) {
            SewingPiles x = busyRoom(4, how);
            int[] before = {x.count(3), x.count(6), x.count(7), 0};
            int[] due = new int[4];
            int minutes = 0;
            for (int number = 0; number < 4; number++) {
                due[number] = x.ifPassed(200, number);
            }
            while (minutes < 200) {
                minutes += 50;
                x.pass(50);
            }
            int[] counts = {3, 6, 7, 10};
            for (int number = 0; number < 4; number++) {
                Check.due("number " + number, x.count(counts[number]) - before[number], due[number]);
            }
        }
    }

    /** "0.0 without any" */
    private static void takenShareWithoutAny() {
        SewingPiles x = new SewingPiles();
        Check.dueShare("a new object", 0.0, x.takenShare());
        x.lay(0, 9);
        Check.dueShare("laid is not taken", 0.0, x.takenShare());
        x.pass(1);
        x.undo();
        Check.dueShare("undone", 0.0, x.takenShare());
    }

    private static void takenShareOfAllAndOfNone() {
        SewingPiles x = new SewingPiles();
        x.lay(0, 1);
        x.pass(5);
        Check.dueShare("none of one", 0.0, x.takenShare());
        SewingPiles y = Rooms.asleep(2);
        y.lay(1, 1);
        y.pass(5);
        Check.dueShare("one of one", 1.0, y.takenShare());
    }

    /** "divided by those that were taken so far (by the rules 3 and 4)": shirts that came are not asked. */
    private static void takenShareCountsHalvesThatAreTaken() {
        SewingPiles x = new SewingPiles();
        x.lay(0, 40);
        x.pass(1);
        Check.dueShare("1 took the half", 0.5, x.takenShare());
        Check.layAll(x, 0, 1, 1, 1);
        Check.dueShare("those that only lie are not taken", 0.5, x.takenShare());
    }

    /** "1.0 if that is 0" */
    private static void evennessWithoutWork() {
        Check.dueShare("a new object", 1.0f, new SewingPiles().evenness());
        Check.dueShare("six", 1.0f, Rooms.of(6).evenness());
        Check.dueShare("all is sewn", 1.0f, Rooms.withSewnShirts(120).evenness());
    }

    private static void evennessOfNoneAndOfAll() {
        SewingPiles x = new SewingPiles();
        x.lay(1, 1);
        Check.dueShare("0 of 1", 0.0f, x.evenness());
        x.lay(0, 1);
        Check.dueShare("1 of 1", 1.0f, x.evenness());
        x.lay(0, 98);
        Check.dueShare("1 of 99", 1.0f / 99, x.evenness());
        Check.dueShare("six with as much as they can have", 1.0f, fullRoom(6).evenness());
    }

    private static void evennessOfSix() {
        SewingPiles x = Rooms.of(6);
        int[] works = {7, 9, 4, 8, 5, 6};
        for (int who = 0; who < 6; who++) {
            Check.dueShare("some have none", 0.0f, who == 0 ? 0.0f : x.evenness());
            x.lay(who, works[who]);
        }
        Check.dueShare("the least by the greatest", 4.0f / 9, x.evenness());
        x.lay(5, 6);
        Check.dueShare("the greatest is the last one's", 4.0f / 12, x.evenness());
        x.lay(0, 6);
        Check.dueShare("the greatest is the first one's", 4.0f / 13, x.evenness());
    }

    private static void evennessOfHandsAlone() {
        SewingPiles x = new SewingPiles();
        Check.layAll(x, 0, 3, 9);
        Check.dueShare("on one pile", 0.0f, x.evenness());
        x.pass(1);
        Check.dueShare("one in each hand", 3.0f / 9, x.evenness());
        x.pass(3);
        Check.dueShare("one is sewn", 0.0f, x.evenness());
    }

    /** "The hash starts at 3319." */
    private static void digestOfANewObject() {
        long due = 3319;
        int[] counts = {0, 2, 0, 0, 0, 0, 0, 0, 0, 0, 0, 0};
        int[] settings = {20, 0, 3};
        int[] seamstress = {1, 0, -1, 0, 0, 0, 0, 0, 0, 0, -1};
        int[] forecasts = {0, 0, 0, 0, 0, 0, 6, 0};
        for (int[] values : new int[][] {counts, settings, seamstress, seamstress, forecasts}) {
            for (int value : values) {
                due = 31 * due + value;
            }
        }
        due = 31 * due;
        due = 31 * due + 0x3f800000L;
        due = 31 * due;
        due = 31 * due;
        Check.due("by the document's list", due, new SewingPiles().digest());
    }

    private static void digestAtTheLimits() {
        SewingPiles x = Rooms.atItsLimits();
        Check.due("at its limits", DigestTest.dueDigest(x, "l0.5;w1;v29;m3;".repeat(4), true), x.digest());
        SewingPiles y = fullRoom(6);
        Check.due("of a full room", DigestTest.dueDigest(y, "", false), y.digest());
        x.pass(30);
        y.pass(99);
        Check.due("later on", DigestTest.dueDigest(x, "l0.5;w1;v29;m3;".repeat(4), true), x.digest());
        Check.due("later on", DigestTest.dueDigest(y, "", false), y.digest());
    }

    private static void digestOf120Shirts() {
        SewingPiles x = Rooms.withSewnShirts(119);
        x.lay(0, 99);
        Check.due("one lies", DigestTest.dueDigest(x, "", false), x.digest());
        x.pass(1);
        Check.due("it is in a hand", DigestTest.dueDigest(x, "", false), x.digest());
        x.pass(99);
        Check.due("it is sewn", DigestTest.dueDigest(x, "", false), x.digest());
    }

    /** "1 if there is a snapshot, otherwise 0" */
    private static void digestTellsTheSnapshot() {
        SewingPiles x = new SewingPiles();
        long without = x.digest();
        x.keep();
        // The length of the empty buffer comes behind it.
        Check.due("with one", without + 31, x.digest());
        x.keep();
        Check.due("with another one", without + 31, x.digest());
    }

    /** "the length of the buffer and each of its character codes" */
    private static void digestTellsTheBuffer() {
        SewingPiles x = new SewingPiles();
        long due = x.digest();
        x.append(33);
        due = 31 * (due + 1) + 33;
        Check.due("one character", due, x.digest());
        x.clearBuffer();
        Check.due("none", new SewingPiles().digest(), x.digest());
        x.append(126);
        Check.due("another one", due - 33 + 126, x.digest());
    }

    /** "what would be, if nothing else is done; nothing is changed" */
    private static void forecastsChangeNothing() {
        for (int seamstresses = 2; seamstresses <= 6; seamstresses++) {
            SewingPiles x = busyRoom(seamstresses, 2);
            x.keep();
            x.pass(1);
            SewingPiles y = busyRoom(seamstresses, 2);
            y.keep();
            y.pass(1);
            x.doneIn();
            x.doneAlone();
            x.doneWith(9);
            x.ifPassed(200, 0);
            x.takenShare();
            x.evenness();
            x.digest();
            Check.dueTwins("behind forecasts", y, x);
        }
    }
}
