/** Promises 15 to 20: seamstress, pile, shirt, count, setting, choice. */
public final class LooksTest {
    public static void main(String[] args) {
        seamstress();
        seamstressRefuses();
        pile();
        shirt();
        count();
        setting();
        choiceByMost();
        choiceByNext();
        choiceByWork();
        choiceOfLastShirts();
        choiceIsNotHindered();
        choiceIsWhatShePulls();
        Check.end();
    }

    /** Minute 1: 0 takes 2, 1 takes 0; minute 3: 0 has sewn 2; minute 4: 0 takes 1. */
    private static SewingPiles roomAfterFourMinutes() {
        SewingPiles x = new SewingPiles();
        Check.layAll(x, 0, 9, 4, 6);
        x.speed(0, 3);
        x.pass(4);
        return x;
    }

    private static void dueRow(String what, int[] due, SewingPiles x, int who) {
        for (int i = 0; i < due.length; i++) {
            Check.due(what + ", number " + i, due[i], x.seamstress(who, i));
        }
    }

    private static void seamstress() {
        SewingPiles x = roomAfterFourMinutes();
        dueRow("15: 0", new int[] {3, 0, 1, 0, 0, 1, 0, 0, 0, 4}, x, 0);
        dueRow("15: 1", new int[] {1, 0, 0, 0, 0, 0, 1, 0, 0, 6}, x, 1);
        x.lay(1, 15);
        x.lay(1, 5);
        dueRow("15: 1 with a pile", new int[] {1, 2, 0, 0, 0, 0, 1, 0, 0, 26}, x, 1);
        SewingPiles y = new SewingPiles();
        y.pass(2);
        dueRow("15: misses", new int[] {1, 0, -1, 2, 0, 0, 0, 0, 2, 0}, y, 0);
        y.pass(6);
        dueRow("15: asleep", new int[] {1, 0, -1, 0, 1, 0, 0, 5, 3, 0}, y, 0);
        y.wake(0);
        y.pass(1);
        dueRow("15: woken", new int[] {1, 0, -1, 1, 0, 0, 0, 5, 4, 0}, y, 0);
    }

    private static void seamstressRefuses() {
        SewingPiles x = new SewingPiles();
        Check.dueThrow("15: seamstress(-1, 0)", Check.BOUNDS, x, () -> x.seamstress(-1, 0));
        Check.dueThrow("15: seamstress(2, 0)", Check.BOUNDS, x, () -> x.seamstress(2, 0));
        Check.dueThrow("15: seamstress(2, 10)", Check.BOUNDS, x, () -> x.seamstress(2, 10));
        Check.dueThrow("15: seamstress(1, 10)", Check.ARGUMENT, x, () -> x.seamstress(1, 10));
        Check.dueThrow("15: seamstress(1, -1)", Check.ARGUMENT, x, () -> x.seamstress(1, -1));
        x.hire(4);
        Check.due("15: seamstress(2, 0)", 4, x.seamstress(2, 0));
    }

    private static void pile() {
        SewingPiles x = new SewingPiles();
        for (int i = 0; i < 16; i++) {
            x.lay(i < 3 ? 0 : 1, 5);
        }
        Check.due("16: the far end", 0, x.pile(0, 0));
        Check.due("16: the near end", 2, x.pile(0, 2));
        Check.due("16: above it", SewingPiles.NONE, x.pile(0, 3));
        Check.due("16: the far end of 1", 3, x.pile(1, 0));
        x.lay(1, 5);
        x.lay(1, 5);
        x.lay(1, 5);
        Check.due("16: the 16th", 18, x.pile(1, 15));
        Check.due("16: there is no 17th", SewingPiles.NONE, x.pile(1, 16));
        Check.due("16: far above", SewingPiles.NONE, x.pile(1, Integer.MAX_VALUE));
        Check.dueThrow("16: pile(0, -1)", Check.ARGUMENT, x, () -> x.pile(0, -1));
        Check.dueThrow("16: pile(0, min)", Check.ARGUMENT, x, () -> x.pile(0, Integer.MIN_VALUE));
        Check.dueThrow("16: pile(2, 0)", Check.BOUNDS, x, () -> x.pile(2, 0));
        Check.dueThrow("16: pile(-1, -1)", Check.BOUNDS, x, () -> x.pile(-1, -1));
    }

    private static void shirt() {
        SewingPiles x = roomAfterFourMinutes();
        x.lay(1, 15);
        int[][] due = {{6, 1, 1}, {4, 1, 0}, {0, 2, 0}, {15, 0, 1}};
        for (int shirt = 0; shirt < 4; shirt++) {
            for (int what = 0; what < 3; what++) {
                Check.due("17: shirt(" + shirt + ", " + what + ")", due[shirt][what], x.shirt(shirt, what));
            }
        }
        Check.dueThrow("17: shirt(4, 0)", Check.BOUNDS, x, () -> x.shirt(4, 0));
        Check.dueThrow("17: shirt(-1, 0)", Check.BOUNDS, x, () -> x.shirt(-1, 0));
        Check.dueThrow("17: shirt(4, 3)", Check.BOUNDS, x, () -> x.shirt(4, 3));
        Check.dueThrow("17: shirt(0, 3)", Check.ARGUMENT, x, () -> x.shirt(0, 3));
        Check.dueThrow("17: shirt(0, -1)", Check.ARGUMENT, x, () -> x.shirt(0, -1));
        x.undo();
        Check.dueThrow("17: an undone one", Check.BOUNDS, x, () -> x.shirt(3, 0));
    }

    private static void dueCounts(String what, int[] due, SewingPiles x) {
        for (int i = 0; i < due.length; i++) {
            Check.due(what + ", count(" + i + ")", due[i], x.count(i));
        }
    }

    private static void count() {
        SewingPiles x = roomAfterFourMinutes();
        dueCounts("18: four minutes", new int[] {4, 2, 3, 1, 0, 2, 1, 0, 0, 0, 10, 5}, x);
        x.pass(99);
        dueCounts("18: all sewn", new int[] {103, 2, 3, 3, 0, 0, 1, 6, 0, 2, 0, 6}, x);
        x.hire(2);
        x.lay(2, 70);
        x.lay(2, 6);
        dueCounts("18: laid", new int[] {103, 3, 5, 3, 2, 0, 1, 6, 0, 0, 76, 6}, x);
        x.pass(1);
        // 0 takes the 70 and keeps 35, 1 takes the half and keeps 18, 2 takes her 6.
        dueCounts("18: divided", new int[] {104, 3, 7, 3, 1, 3, 3, 6, 2, 0, 76, 6}, x);
        Check.dueThrow("18: count(-1)", Check.ARGUMENT, x, () -> x.count(-1));
        Check.dueThrow("18: count(12)", Check.ARGUMENT, x, () -> x.count(12));
    }

    private static void setting() {
        SewingPiles x = new SewingPiles();
        x.set(0, 44);
        x.set(1, 1);
        x.set(2, 17);
        Check.due("19: setting(0)", 44, x.setting(0));
        Check.due("19: setting(1)", 1, x.setting(1));
        Check.due("19: setting(2)", 17, x.setting(2));
        Check.dueThrow("19: setting(3)", Check.BOUNDS, x, () -> x.setting(3));
        Check.dueThrow("19: setting(-1)", Check.BOUNDS, x, () -> x.setting(-1));
    }

    /** Piles of 2, 3, 1, 3 and 0 shirts; the works at their far ends are 5, 8, 50, 8. */
    private static SewingPiles roomOfPiles() {
        SewingPiles x = new SewingPiles();
        x.hire(1);
        x.hire(1);
        x.hire(1);
        Check.layAll(x, 0, 5, 90);
        Check.layAll(x, 1, 8, 1, 1);
        Check.layAll(x, 2, 50);
        Check.layAll(x, 3, 8, 9, 9);
        return x;
    }

    private static void dueChoices(String what, int[] due, SewingPiles x) {
        for (int who = 0; who < due.length; who++) {
            Check.due(what + ", choice(" + who + ")", due[who], x.choice(who));
        }
    }

    private static void choiceByMost() {
        SewingPiles x = roomOfPiles();
        dueChoices("20: the most shirts", new int[] {1, 3, 1, 1, 1}, x);
        x.lay(3, 1);
        dueChoices("20: the most shirts", new int[] {3, 3, 3, 1, 3}, x);
        Check.dueThrow("20: choice(5)", Check.BOUNDS, x, () -> x.choice(5));
        Check.dueThrow("20: choice(-1)", Check.BOUNDS, x, () -> x.choice(-1));
    }

    private static void choiceByNext() {
        SewingPiles x = roomOfPiles();
        x.set(1, 1);
        dueChoices("20: the first behind her", new int[] {1, 3, 3, 0, 0}, x);
        SewingPiles y = new SewingPiles();
        y.hire(1);
        Check.layAll(y, 1, 1, 1);
        dueChoices("20: only 1", new int[] {1, -1, 1}, y);
        y.set(1, 1);
        dueChoices("20: only 1, round", new int[] {1, -1, 1}, y);
    }

    private static void choiceByWork() {
        SewingPiles x = roomOfPiles();
        x.set(1, 2);
        dueChoices("20: the most work", new int[] {1, 3, 1, 1, 1}, x);
        x.lay(2, 1);
        dueChoices("20: the most work", new int[] {2, 2, 1, 2, 2}, x);
    }

    private static void choiceOfLastShirts() {
        SewingPiles x = new SewingPiles();
        x.lay(1, 5);
        dueChoices("20: left to its owner", new int[] {-1, -1}, x);
        x.pass(1);
        x.lay(1, 5);
        dueChoices("20: her hand is full", new int[] {1, -1}, x);
        SewingPiles y = new SewingPiles();
        y.pass(3);
        y.lay(1, 5);
        dueChoices("20: she sleeps", new int[] {1, -1}, y);
        y.wake(1);
        dueChoices("20: she is awake", new int[] {-1, -1}, y);
    }

    private static void choiceIsNotHindered() {
        SewingPiles x = new SewingPiles();
        Check.layAll(x, 0, 50, 5, 5);
        Check.layAll(x, 1, 7, 7);
        x.pass(1);
        Check.due("20: her hand is full", 2, x.seamstress(0, 2));
        Check.due("20: her pile has shirts", 2, x.seamstress(0, 1));
        dueChoices("20: though", new int[] {1, 0}, x);
        SewingPiles y = new SewingPiles();
        y.hire(1);
        y.pass(3);
        y.lay(2, 4);
        Check.due("20: 1 sleeps", 1, y.seamstress(1, 4));
        dueChoices("20: though she sleeps", new int[] {2, 2, -1}, y);
    }

    private static void choiceIsWhatShePulls() {
        for (int how = 0; how <= 2; how++) {
            SewingPiles x = roomOfPiles();
            x.set(1, how);
            x.set(0, 99);
            x.pass(1);
            // All but 4 take their own: piles of 1, 2, 0, 2 shirts with full hands; far ends 5, 8, -, 8.
            int from = how == 1 ? 0 : 1;
            Check.due("20: 4 takes by setting " + how, from == 0 ? 0 : 2, x.seamstress(4, 2));
            Check.due("20: from the far end", 1, x.seamstress(4, 6));
        }
    }
}
