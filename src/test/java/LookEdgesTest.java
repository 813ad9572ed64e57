/** Promises 15 to 20, each number at the least and the greatest that it can have, and each place beside the last. */
public final class LookEdgesTest {
    public static void main(String[] args) {
        numbersOfANewSeamstress();
        greatestWorkOfOne();
        missesInARowUpTo19();
        handTellsTheNumberOfItsShirt();
        onlyShirtsOfOthersAreTakenFromOthers();
        placesFromTheFarEnd();
        placesOfAnEmptyPile();
        workOfASewnShirtIs0();
        whoseShirtItIs();
        countsOfANewObject();
        countsOfAFullRoom();
        countOf120Shirts();
        countOfSleepers();
        countOfSavedStates();
        settingsAreTold();
        choiceOfTheFirstAndTheLast();
        choiceDoesNotAskWhatSheHas();
        looksChangeNothing();
        Check.end();
    }

    private static void dueNumbers(String what, int[] due, SewingPiles x, int who) {
        for (int number = 0; number < 10; number++) {
            Check.due(what + ", number " + number, due[number], x.seamstress(who, number));
        }
    }

    private static void numbersOfANewSeamstress() {
        SewingPiles x = new SewingPiles();
        dueNumbers("0", new int[] {1, 0, SewingPiles.NONE, 0, 0, 0, 0, 0, 0, 0}, x, 0);
        dueNumbers("1", new int[] {1, 0, SewingPiles.NONE, 0, 0, 0, 0, 0, 0, 0}, x, 1);
        for (int who = 2; who < 6; who++) {
            x.hire(9);
            dueNumbers("hired", new int[] {9, 0, SewingPiles.NONE, 0, 0, 0, 0, 0, 0, 0}, x, who);
        }
    }

    /** Six seamstresses; each has a shirt of 99 in her hand and 16 on her pile. */
    private static SewingPiles fullRoom() {
        SewingPiles x = Rooms.of(6);
        x.set(0, 99);
        for (int who = 0; who < 6; who++) {
            x.lay(who, 99);
        }
        x.pass(1);
        for (int who = 0; who < 6; who++) {
            for (int i = 0; i < 16; i++) {
                x.lay(who, 99);
            }
        }
        return x;
    }

    /** "9: the work of the shirts on her pile and in her hand, together" */
    private static void greatestWorkOfOne() {
        SewingPiles x = fullRoom();
        for (int who = 0; who < 6; who++) {
            dueNumbers("full", new int[] {1, 16, who, 0, 0, 0, 0, 0, 0, 17 * 99}, x, who);
        }
        SewingPiles y = new SewingPiles();
        y.lay(0, 1);
        Check.due("on the pile alone", 1, y.seamstress(0, 9));
        y.pass(1);
        Check.due("in the hand alone", 1, y.seamstress(0, 9));
        y.pass(1);
        Check.due("sewn", 0, y.seamstress(0, 9));
    }

    /** "3: her misses in a row" */
    private static void missesInARowUpTo19() {
        SewingPiles x = new SewingPiles();
        x.set(2, 20);
        for (int misses = 1; misses <= 19; misses++) {
            x.pass(1);
            dueNumbers("missing", new int[] {1, 0, -1, misses, 0, 0, 0, 0, misses, 0}, x, 1);
        }
        x.pass(1);
        dueNumbers("asleep", new int[] {1, 0, -1, 0, 1, 0, 0, 0, 20, 0}, x, 1);
        x.pass(1);
        dueNumbers("sleeping", new int[] {1, 0, -1, 0, 1, 0, 0, 1, 20, 0}, x, 1);
    }

    /** "2: the number of the shirt in her hand, NONE without one" */
    private static void handTellsTheNumberOfItsShirt() {
        SewingPiles x = new SewingPiles();
        Check.due("without one", -1, x.seamstress(0, 2));
        x.lay(0, 5);
        x.pass(1);
        Check.due("number 0 is not none", 0, x.seamstress(0, 2));
        SewingPiles y = Rooms.withSewnShirts(119);
        y.lay(0, 5);
        y.pass(1);
        Check.due("number 119", 119, y.seamstress(0, 2));
    }

    /** "6: shirts that she took from others so far" */
    private static void onlyShirtsOfOthersAreTakenFromOthers() {
        SewingPiles x = new SewingPiles();
        Check.layAll(x, 1, 1, 1, 1, 1);
        x.pass(9);
        Check.due("0 took two from 1", 2, x.seamstress(0, 6));
        Check.due("1 took none from others", 0, x.seamstress(1, 6));
        Check.due("0 sewed two", 2, x.seamstress(0, 5));
        Check.due("1 too", 2, x.seamstress(1, 5));
        x.lay(0, 1);
        x.pass(9);
        Check.due("her own is no other one's", 2, x.seamstress(0, 6));
        Check.due("three are sewn by 0", 3, x.seamstress(0, 5));
    }

    /** "place: its place from the far end, from 0"; "NONE if there are not so many" */
    private static void placesFromTheFarEnd() {
        SewingPiles x = fullRoom();
        for (int who = 0; who < 6; who++) {
            for (int place = 0; place < 16; place++) {
                Check.due("the shirt", 6 + 16 * who + place, x.pile(who, place));
            }
            Check.due("place 16", SewingPiles.NONE, x.pile(who, 16));
            Check.due("place 17", SewingPiles.NONE, x.pile(who, 17));
            Check.due("the greatest place", SewingPiles.NONE, x.pile(who, Integer.MAX_VALUE));
        }
    }

    private static void placesOfAnEmptyPile() {
        SewingPiles x = new SewingPiles();
        Check.due("never used", SewingPiles.NONE, x.pile(1, 0));
        Check.layAll(x, 1, 9, 9);
        x.pass(1);
        Check.due("emptied from both ends", SewingPiles.NONE, x.pile(1, 0));
        Check.due("at place 1", SewingPiles.NONE, x.pile(1, 1));
        Check.dueThrow("place -1", Check.ARGUMENT, x, () -> x.pile(1, -1));
    }

    /** "0: the work that is left, 0 if it is sewn" */
    private static void workOfASewnShirtIs0() {
        SewingPiles x = new SewingPiles();
        x.speed(0, 9);
        x.lay(0, 10);
        x.pass(2);
        Check.due("one is left", 1, x.shirt(0, 0));
        x.pass(1);
        Check.due("0, not -8", 0, x.shirt(0, 0));
        x.pass(5);
        Check.due("0 later on", 0, x.shirt(0, 0));
    }

    /** "2: the seamstress on whose pile it lies, in whose hand it is, or who sewed it" */
    private static void whoseShirtItIs() {
        SewingPiles x = Rooms.of(6);
        Check.layAll(x, 5, 3, 4);
        Check.due("it lies with 5", 5, x.shirt(0, 2));
        x.pass(1);
        Check.due("it is in the hand of 0", 0, x.shirt(0, 2));
        Check.due("the other one in that of 5", 5, x.shirt(1, 2));
        x.pass(9);
        Check.due("0 sewed it", 0, x.shirt(0, 2));
        Check.due("5 the other one", 5, x.shirt(1, 2));
    }

    private static void dueCounts(String what, int[] due, SewingPiles x) {
        for (int number = 0; number < due.length; number++) {
            Check.due(what + ", count(" + number + ")", due[number], x.count(number));
        }
    }

    private static void countsOfANewObject() {
        dueCounts("new", new int[] {0, 2, 0, 0, 0, 0, 0, 0, 0, 0, 0, 0}, new SewingPiles());
    }

    private static void countsOfAFullRoom() {
        SewingPiles x = fullRoom();
        dueCounts("full", new int[] {1, 6, 102, 0, 96, 6, 0, 0, 0, 0, 102 * 99, 6}, x);
    }

    /** "2: shirts that came so far; 3: sewn ones" */
    private static void countOf120Shirts() {
        SewingPiles x = Rooms.withSewnShirts(120);
        Check.due("came", 120, x.count(2));
        Check.due("sewn", 120, x.count(3));
        Check.due("on piles", 0, x.count(4));
        Check.due("in hands", 0, x.count(5));
        Check.due("divided", 0, x.count(8));
        Check.due("work", 0, x.count(10));
        int sewn = x.seamstress(0, 5) + x.seamstress(1, 5);
        Check.due("by both", 120, sewn);
    }

    /** "9: seamstresses who are asleep" */
    private static void countOfSleepers() {
        SewingPiles x = Rooms.asleep(6);
        for (int who = 0; who < 6; who++) {
            Check.due("asleep", 6 - who, x.count(9));
            x.wake(who);
        }
        Check.due("none", 0, x.count(9));
    }

    /** "11: saved states" */
    private static void countOfSavedStates() {
        SewingPiles x = new SewingPiles();
        for (int calls = 1; calls <= 8; calls++) {
            x.wake(0);
            Check.due("saved", calls < 6 ? calls : 6, x.count(11));
        }
        x.undo();
        Check.due("one is dropped", 5, x.count(11));
    }

    private static void settingsAreTold() {
        SewingPiles x = new SewingPiles();
        int[] first = {20, 0, 3};
        for (int setting = 0; setting < 3; setting++) {
            Check.due("at first", first[setting], x.setting(setting));
        }
        Check.dueThrow("setting(-1)", Check.BOUNDS, x, () -> x.setting(-1));
        Check.dueThrow("setting(3)", Check.BOUNDS, x, () -> x.setting(3));
    }

    private static void choiceOfTheFirstAndTheLast() {
        SewingPiles x = Rooms.of(6);
        Check.layAll(x, 0, 1, 1);
        Check.due("the last one would take from 0", 0, x.choice(5));
        Check.due("0 from none", SewingPiles.NONE, x.choice(0));
        SewingPiles y = Rooms.of(6);
        Check.layAll(y, 5, 1, 1);
        Check.due("0 would take from the last one", 5, y.choice(0));
        Check.due("the last one from none", SewingPiles.NONE, y.choice(5));
        Check.dueThrow("choice(6)", Check.BOUNDS, y, () -> y.choice(6));
    }

    /** "if she acted now, was awake, and had neither a shirt in her hand nor one on her pile" */
    private static void choiceDoesNotAskWhatSheHas() {
        SewingPiles x = fullRoom();
        for (int who = 0; who < 6; who++) {
            Check.due("with a full hand and a full pile", who == 0 ? 1 : 0, x.choice(who));
        }
        SewingPiles y = Rooms.asleep(3);
        y.lay(2, 5);
        Check.due("asleep", 2, y.choice(1));
        Check.due("asleep herself, her own is no other one's", SewingPiles.NONE, y.choice(2));
    }

    /** "looks; nothing is changed" */
    private static void looksChangeNothing() {
        SewingPiles x = fullRoom();
        SewingPiles y = fullRoom();
        for (int who = 0; who < 6; who++) {
            for (int what = 0; what < 10; what++) {
                x.seamstress(who, what);
            }
            x.pile(who, 3);
            x.choice(who);
        }
        x.shirt(7, 0);
        x.count(10);
        x.setting(2);
        Check.dueTwins("behind looks", y, x);
    }
}
