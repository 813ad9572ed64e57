/** Promises 21 to 26: doneIn, doneAlone, doneWith, ifPassed, takenShare, evenness. */
public final class ForecastTest {
    public static void main(String[] args) {
        doneIn();
        doneAlone();
        doneWith();
        doneWithSeven();
        ifPassed();
        forecastsAgreeWithPassing();
        nothingIsChanged();
        takenShare();
        evenness();
        Check.end();
    }

    private static void doneIn() {
        SewingPiles x = new SewingPiles();
        Check.due("21: nothing to do", 0, x.doneIn());
        x.lay(1, 5);
        Check.due("21: one of 5", 6, x.doneIn());
        x.lay(1, 5);
        // 0 takes the far one at once, 1 her own.
        Check.due("21: two of 5", 6, x.doneIn());
        x.pass(5);
        Check.due("21: the last minute", 1, x.doneIn());
        x.pass(1);
        Check.due("21: done", 0, x.doneIn());
        x.pass(9);
        x.lay(1, 8);
        Check.due("21: 0 takes from the sleeper", 9, x.doneIn());
    }

    private static void doneAlone() {
        SewingPiles x = new SewingPiles();
        Check.due("22: nothing to do", 0, x.doneAlone());
        Check.layAll(x, 1, 5, 5);
        Check.due("22: one by one", 12, x.doneAlone());
        x.speed(1, 5);
        Check.due("22: with speed 5", 4, x.doneAlone());
        SewingPiles y = new SewingPiles();
        y.pass(3);
        y.lay(1, 5);
        Check.due("22: its owner sleeps for ever", SewingPiles.NONE, y.doneAlone());
        Check.due("22: but 0 would take it", 6, y.doneIn());
        y.wake(1);
        Check.due("22: woken", 6, y.doneAlone());
        SewingPiles z = new SewingPiles();
        z.pass(2);
        Check.layAll(z, 0, 30);
        // 15 and 15: a minute for each taking; the dividing wakes nobody, for 1 falls asleep behind it.
        Check.due("22: divided", 32, z.doneAlone());
        Check.layAll(z, 1, 1, 1, 1);
        z.speed(0, 9);
        Check.due("22: the later one of two", 6, z.doneAlone());
        doneAloneOfAFullPile();
    }

    private static void doneAloneOfAFullPile() {
        SewingPiles x = new SewingPiles();
        x.set(0, 99);
        for (int i = 0; i < 16; i++) {
            x.lay(0, 99);
        }
        Check.due("22: 16 of 99, and 16 takings", 1600, x.doneAlone());
        x.undo();
        x.set(0, 2);
        // 99 keeps 50, 49 keeps 25, then 12, 6, 3, 2 and 1: seven takings for each of 15.
        Check.due("22: each divided into seven", 15 * 99 + 15 * 7, x.doneAlone());
    }

    private static void doneWith() {
        SewingPiles x = new SewingPiles();
        Check.due("23: nothing to do", 0, x.doneWith(1));
        Check.layAll(x, 0, 9, 9, 9);
        Check.due("23: without her", 20, x.doneIn());
        Check.due("23: with her each has one", 10, x.doneWith(1));
        Check.due("23: she is fast, the others have one each", 10, x.doneWith(9));
        x.speed(0, 3);
        x.speed(1, 3);
        Check.due("23: without her", 8, x.doneIn());
        Check.due("23: with a slow one", 10, x.doneWith(1));
        Check.due("23: nobody came", 2, x.count(1));
        Check.dueThrow("23: doneWith(0)", Check.ARGUMENT, x, () -> x.doneWith(0));
        Check.dueThrow("23: doneWith(10)", Check.ARGUMENT, x, () -> x.doneWith(10));
        SewingPiles y = new SewingPiles();
        y.set(2, 1);
        y.pass(1);
        y.lay(1, 6);
        Check.due("23: 0 takes it before her", 7, y.doneWith(9));
        y.lay(1, 6);
        y.lay(1, 6);
        Check.due("23: the third one is for her", 7, y.doneWith(9));
    }

    private static void doneWithSeven() {
        SewingPiles x = new SewingPiles();
        for (int i = 0; i < 4; i++) {
            x.hire(1);
        }
        for (int i = 0; i < 7; i++) {
            x.lay(5, 19);
        }
        Check.due("23: 6 have two rounds", 40, x.doneIn());
        Check.due("23: 7 have one", 20, x.doneWith(1));
        Check.due("23: there are 6", 6, x.count(1));
        Check.dueThrow("23: and no seventh", Check.BOUNDS, x, () -> x.seamstress(6, 0));
    }

    private static void ifPassed() {
        SewingPiles x = new SewingPiles();
        Check.layAll(x, 0, 9, 4, 6);
        int[] one = {0, 1, 0, 19};
        int[] ten = {2, 1, 0, 2};
        int[] all = {3, 1, 6, 0};
        for (int what = 0; what < 4; what++) {
            Check.due("24: ifPassed(1, " + what + ")", one[what], x.ifPassed(1, what));
            Check.due("24: ifPassed(10, " + what + ")", ten[what], x.ifPassed(10, what));
            Check.due("24: ifPassed(200, " + what + ")", all[what], x.ifPassed(200, what));
        }
        x.pass(10);
        int[] next = {1, 0, 6, 0};
        for (int what = 0; what < 4; what++) {
            Check.due("24: from now on, " + what, next[what], x.ifPassed(5, what));
        }
        x.pass(4);
        Check.due("24: one miss in the next minute", 1, x.ifPassed(1, 2));
        Check.due("24: not counting those before", 5, x.count(7));
        Check.dueThrow("24: ifPassed(0, 0)", Check.ARGUMENT, x, () -> x.ifPassed(0, 0));
        Check.dueThrow("24: ifPassed(201, 0)", Check.ARGUMENT, x, () -> x.ifPassed(201, 0));
        Check.dueThrow("24: ifPassed(1, -1)", Check.ARGUMENT, x, () -> x.ifPassed(1, -1));
        Check.dueThrow("24: ifPassed(1, 4)", Check.ARGUMENT, x, () -> x.ifPassed(1, 4));
    }

    private static SewingPiles busyRoom() {
        SewingPiles x = new SewingPiles();
        x.hire(3);
        x.hire(2);
        Check.layAll(x, 1, 80, 3, 41);
        Check.layAll(x, 3, 12, 99);
        x.pass(3);
        Check.layAll(x, 0, 30, 30);
        return x;
    }

    private static void forecastsAgreeWithPassing() {
        SewingPiles x = busyRoom();
        int due = x.doneIn();
        int withFive = x.doneWith(5);
        int sewn = x.ifPassed(30, 0);
        int taken = x.ifPassed(30, 1);
        int misses = x.ifPassed(30, 2);
        int left = x.ifPassed(30, 3);
        int takenBefore = x.count(6);
        int missesBefore = x.count(7);
        Check.due("24: sewn", x.pass(30), sewn);
        Check.due("24: taken", x.count(6) - takenBefore, taken);
        Check.due("24: misses", x.count(7) - missesBefore, misses);
        Check.due("24: work left", x.count(10), left);
        x.undo();
        Check.due("21: doneIn is the first minute", due, minutesByPassing(x));
        SewingPiles y = busyRoom();
        y.hire(5);
        Check.due("23: doneWith is as behind hire", withFive, minutesByPassing(y));
    }

    private static int minutesByPassing(SewingPiles x) {
        int minutes = 0;
        while (x.count(4) + x.count(5) > 0 && minutes < 130) {
            x.pass(1);
            minutes++;
        }
        return minutes;
    }

    private static void nothingIsChanged() {
        SewingPiles x = busyRoom();
        long before = x.digest();
        x.doneIn();
        x.doneAlone();
        x.doneWith(9);
        x.ifPassed(200, 2);
        x.takenShare();
        x.evenness();
        Check.due("21 to 27: nothing is changed", before, x.digest());
        Check.due("21 to 27: nothing is saved", 6, x.count(11));
        Check.due("21 to 27: no minute passed", 3, x.count(0));
    }

    private static void takenShare() {
        SewingPiles x = new SewingPiles();
        Check.dueShare("25: none", 0.0, x.takenShare());
        x.lay(0, 2);
        x.pass(3);
        Check.dueShare("25: none of one", 0.0, x.takenShare());
        Check.layAll(x, 0, 2, 2);
        x.pass(3);
        Check.dueShare("25: one of three", 1.0 / 3, x.takenShare());
        x.pass(5);
        x.lay(1, 2);
        x.pass(3);
        Check.dueShare("25: two of four", 0.5, x.takenShare());
        x.undo();
        Check.dueShare("25: undone", 1.0 / 3, x.takenShare());
        SewingPiles y = new SewingPiles();
        y.pass(3);
        y.lay(1, 2);
        y.pass(1);
        Check.dueShare("25: all", 1.0, y.takenShare());
    }

    private static void evenness() {
        SewingPiles x = new SewingPiles();
        Check.dueShare("26: no work", 1.0f, x.evenness());
        x.lay(0, 3);
        Check.dueShare("26: one has none", 0.0f, x.evenness());
        x.lay(1, 9);
        Check.dueShare("26: a third", 1.0f / 3, x.evenness());
        Check.layAll(x, 0, 6, 5);
        Check.dueShare("26: 9 of 14", 9.0f / 14, x.evenness());
        x.pass(1);
        // 0: 3, 6 on the pile and 5 in the hand; 1: 9 in the hand.
        Check.dueShare("26: the hands count", 9.0f / 14, x.evenness());
        x.pass(1);
        Check.dueShare("26: less work", 8.0f / 13, x.evenness());
        x.hire(1);
        Check.dueShare("26: a third seamstress", 0.0f, x.evenness());
        x.lay(2, 99);
        Check.dueShare("26: of three", 8.0f / 99, x.evenness());
        SewingPiles y = new SewingPiles();
        Check.layAll(y, 0, 7);
        Check.layAll(y, 1, 3, 4);
        Check.dueShare("26: alike", 1.0f, y.evenness());
    }
}
