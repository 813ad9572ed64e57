/** The document's Undo and promises 12 to 14, sentence by sentence, with no, one and six saved states. */
public final class StateEdgesTest {
    public static void main(String[] args) {
        eachUndoableMethodSavesTheStateBeforeIt();
        savedAlsoIfNothingChanges();
        theOtherMethodsSaveNothing();
        undoRestoresWhatIsCounted();
        undoLeavesTheBuffer();
        undoLeavesTheSnapshot();
        atMostSixAreSaved();
        theOldestIsDroppedFirst();
        goBackDropsTheOldestToo();
        undoTellsHowManyAreLeft();
        savingBehindUndo();
        undoOfTheLastSavedState();
        keepTellsTheMinutes();
        keepOfANewObject();
        keepComesInPlaceOfTheOneThatWas();
        goBackWithoutASnapshot();
        goBackTellsTheMinutesThen();
        theSnapshotStays();
        goBackLeavesBufferAndSavedStates();
        goBackFromSixSeamstressesToTwo();
        goBackFromTwoSeamstressesToSix();
        goBackFrom120ShirtsToNone();
        undoOfTheSixthSeamstress();
        undoOfTheSixteenthShirt();
        undoOfASewnShirt();
        undoOfADivision();
        undoOfFallingAsleep();
        Check.end();
    }

    private static SewingPiles busyRoom() {
        SewingPiles x = new SewingPiles();
        x.hire(3);
        Check.layAll(x, 1, 50, 7, 33);
        x.pass(9);
        x.keep();
        return x;
    }

    private static void dueUndone(String what, Check.CallOf call) {
        SewingPiles x = busyRoom();
        long before = x.digest();
        int saved = x.count(11);
        call.answer(x);
        Check.due(what + " saves a state", saved + 1, x.count(11));
        Check.due(what + ": undo leaves those before it", saved, x.undo());
        Check.due(what + " is undone", before, x.digest());
    }

    /** "Each method that is marked "undoable" and does not throw an exception saves the state from before it" */
    private static void eachUndoableMethodSavesTheStateBeforeIt() {
        dueUndone("hire", x -> x.hire(9));
        dueUndone("speed", x -> x.speed(0, 9));
        dueUndone("lay", x -> x.lay(2, 99));
        dueUndone("wake", x -> x.wake(0));
        dueUndone("pass(1)", x -> x.pass(1));
        dueUndone("pass(99)", x -> x.pass(99));
        dueUndone("set(0)", x -> x.set(0, 2));
        dueUndone("set(1)", x -> x.set(1, 2));
        dueUndone("set(2)", x -> x.set(2, 1));
        dueUndone("goBack", x -> {
            x.pass(1);
            x.undo();
            return x.goBack();
        });
        dueUndone("obey", x -> {
            Check.write(x, "l0.9;v18;w2;m30");
            return x.obey();
        });
    }

    /** "(also if it changes nothing)" */
    private static void savedAlsoIfNothingChanges() {
        dueUndone("speed as it is", x -> x.speed(2, 3));
        dueUndone("waking one who is awake and has no misses", x -> x.wake(1));
        dueUndone("set as it is", x -> x.set(0, 20));
        dueUndone("set as it is", x -> x.set(1, 0));
        dueUndone("set as it is", x -> x.set(2, 3));
        dueUndone("back to where it is", SewingPiles::goBack);
        dueUndone("an order that cannot be done", x -> {
            Check.write(x, "w5");
            return x.obey();
        });
    }

    private static void theOtherMethodsSaveNothing() {
        SewingPiles x = busyRoom();
        int saved = x.count(11);
        x.append('m');
        x.firstError();
        x.clearBuffer();
        x.keep();
        x.seamstress(0, 9);
        x.pile(0, 0);
        x.shirt(0, 0);
        x.count(0);
        x.setting(0);
        x.choice(0);
        x.doneIn();
        x.doneAlone();
        x.doneWith(1);
        x.ifPassed(200, 3);
        x.takenShare();
        x.evenness();
        x.digest();
        Check.due("as many as before", saved, x.count(11));
    }

    /** "all, also what is counted so far" */
    private static void undoRestoresWhatIsCounted() {
        SewingPiles x = busyRoom();
        int[] counts = new int[11];
        for (int what = 0; what <= 10; what++) {
            counts[what] = x.count(what);
        }
        int[] numbers = new int[30];
        for (int i = 0; i < 30; i++) {
            numbers[i] = x.seamstress(i / 10, i % 10);
        }
        double share = x.takenShare();
        x.pass(99);
        x.undo();
        for (int what = 0; what <= 10; what++) {
            Check.due("count(" + what + ")", counts[what], x.count(what));
        }
        for (int i = 0; i < 30; i++) {
            Check.due("seamstress(" + i / 10 + ", " + i % 10 + ")", numbers[i], x.seamstress(i / 10, i % 10));
        }
        Check.dueShare("takenShare", share, x.takenShare());
    }

    /** "but the buffer" */
    private static void undoLeavesTheBuffer() {
        SewingPiles x = new SewingPiles();
        Check.write(x, "m1;");
        x.pass(5);
        Check.write(x, "w0");
        x.undo();
        Check.due("all that was written", 5, x.firstError());
        Check.due("both orders are done", 2, x.obey());
        x.undo();
        Check.due("a cleared buffer stays clear", 0, x.clearBuffer());
    }

    /** "the snapshot" */
    private static void undoLeavesTheSnapshot() {
        SewingPiles x = new SewingPiles();
        x.pass(5);
        x.keep();
        x.undo();
        Check.due("no minute", 0, x.count(0));
        Check.due("the snapshot, though it is of an undone state", 5, x.goBack());
        x.undo();
        x.pass(7);
        x.keep();
        x.undo();
        Check.due("the later snapshot", 7, x.goBack());
    }

    /** "At most 6 states are saved" */
    private static void atMostSixAreSaved() {
        SewingPiles x = new SewingPiles();
        for (int calls = 1; calls <= 30; calls++) {
            x.wake(0);
            Check.due("saved behind " + calls, calls < 6 ? calls : 6, x.count(11));
        }
    }

    /** "the oldest one is dropped first" */
    private static void theOldestIsDroppedFirst() {
        for (int calls = 6; calls <= 13; calls++) {
            SewingPiles x = new SewingPiles();
            for (int call = 1; call <= calls; call++) {
                x.pass(1);
            }
            for (int back = 1; back <= 6; back++) {
                Check.due("left", 6 - back, x.undo());
                Check.due("minutes", calls - back, x.count(0));
            }
            Check.dueThrow("those before the latest 6 are dropped", Check.STATE, x, x::undo);
        }
    }

    private static void goBackDropsTheOldestToo() {
        SewingPiles x = new SewingPiles();
        x.keep();
        for (int call = 1; call <= 6; call++) {
            x.pass(1);
        }
        x.goBack();
        Check.due("six", 6, x.count(11));
        for (int minutes = 6; minutes >= 1; minutes--) {
            x.undo();
            Check.due("minutes", minutes, x.count(0));
        }
        Check.dueThrow("the state of no minute is dropped", Check.STATE, x, x::undo);
    }

    /** "Returns how many saved states are left." */
    private static void undoTellsHowManyAreLeft() {
        SewingPiles x = new SewingPiles();
        for (int call = 1; call <= 9; call++) {
            x.pass(1);
        }
        for (int left = 5; left >= 0; left--) {
            Check.due("left", left, x.undo());
            Check.due("as count tells", left, x.count(11));
        }
    }

    private static void savingBehindUndo() {
        SewingPiles x = new SewingPiles();
        for (int call = 1; call <= 6; call++) {
            x.pass(1);
        }
        x.undo();
        x.undo();
        x.pass(50);
        Check.due("five", 5, x.count(11));
        x.pass(1);
        Check.due("six", 6, x.count(11));
        x.pass(1);
        Check.due("six still", 6, x.count(11));
        int[] minutes = {55, 54, 4, 3, 2, 1};
        for (int back = 0; back < 6; back++) {
            x.undo();
            Check.due("minutes", minutes[back], x.count(0));
        }
        Check.dueThrow("none is left", Check.STATE, x, x::undo);
    }

    /** "if there is none" */
    private static void undoOfTheLastSavedState() {
        SewingPiles x = new SewingPiles();
        Check.dueThrow("of a new object", Check.STATE, x, x::undo);
        x.pass(1);
        Check.due("none is left", 0, x.undo());
        Check.dueThrow("behind the last one", Check.STATE, x, x::undo);
    }

    /** "Returns the minutes so far." */
    private static void keepTellsTheMinutes() {
        SewingPiles x = new SewingPiles();
        Check.due("none", 0, x.keep());
        x.pass(99);
        Check.due("99", 99, x.keep());
        x.pass(99);
        Check.due("198", 198, x.keep());
    }

    private static void keepOfANewObject() {
        SewingPiles x = new SewingPiles();
        x.keep();
        x.hire(9);
        x.set(0, 2);
        x.lay(2, 99);
        x.pass(30);
        Check.due("back to no minute", 0, x.goBack());
        Check.due("2 seamstresses", 2, x.count(1));
        Check.due("no shirts", 0, x.count(2));
        Check.due("the setting", 20, x.setting(0));
    }

    /** "in place of the one that was" */
    private static void keepComesInPlaceOfTheOneThatWas() {
        SewingPiles x = new SewingPiles();
        x.pass(3);
        x.keep();
        x.lay(0, 9);
        x.pass(4);
        x.keep();
        x.pass(5);
        Check.due("the later one", 7, x.goBack());
        Check.due("with its shirt", 1, x.count(2));
    }

    /** "if there is no snapshot" */
    private static void goBackWithoutASnapshot() {
        SewingPiles x = new SewingPiles();
        x.pass(1);
        Check.dueThrow("none was taken", Check.STATE, x, x::goBack);
        x.keep();
        Check.due("one was", 1, x.goBack());
    }

    /** "Returns the minutes so far then." */
    private static void goBackTellsTheMinutesThen() {
        SewingPiles x = new SewingPiles();
        x.pass(8);
        x.keep();
        x.pass(80);
        Check.due("those of the snapshot", 8, x.goBack());
        Check.due("as count tells", 8, x.count(0));
    }

    /** "Goes back to the snapshot, which stays." */
    private static void theSnapshotStays() {
        SewingPiles kept = busyRoom();
        SewingPiles x = busyRoom();
        for (int i = 0; i < 3; i++) {
            x.hire(1);
            x.set(0, 2);
            x.lay(0, 77);
            x.pass(20);
            Check.due("back", kept.count(0), x.goBack());
            for (int what = 0; what <= 10; what++) {
                Check.due("count(" + what + ") is as when it was kept", kept.count(what), x.count(what));
            }
            Check.due("the setting", 20, x.setting(0));
            Check.due("what is due", kept.doneIn(), x.doneIn());
        }
    }

    private static void goBackLeavesBufferAndSavedStates() {
        SewingPiles x = new SewingPiles();
        Check.write(x, "m");
        x.pass(1);
        x.keep();
        Check.write(x, "1");
        x.pass(1);
        x.pass(1);
        x.goBack();
        Check.due("one more is saved, none is lost", 4, x.count(11));
        Check.due("the buffer stays", 2, x.clearBuffer());
        int[] minutes = {3, 2, 1, 0};
        for (int due : minutes) {
            x.undo();
            Check.due("minutes", due, x.count(0));
        }
    }

    private static void goBackFromSixSeamstressesToTwo() {
        SewingPiles x = new SewingPiles();
        x.keep();
        for (int who = 2; who < 6; who++) {
            x.hire(9);
            x.lay(who, 9);
        }
        x.pass(1);
        x.goBack();
        Check.due("two", 2, x.count(1));
        Check.dueThrow("there is no 2", Check.BOUNDS, x, () -> x.choice(2));
        for (int who = 2; who < 6; who++) {
            Check.due("they come again", who, x.hire(1));
            int[] due = {1, 0, -1, 0, 0, 0, 0, 0, 0, 0};
            for (int what = 0; what < 10; what++) {
                Check.due("as new ones", due[what], x.seamstress(who, what));
            }
        }
    }

    private static void goBackFromTwoSeamstressesToSix() {
        SewingPiles x = new SewingPiles();
        for (int i = 0; i < 4; i++) {
            x.hire(2 + i);
        }
        x.keep();
        for (int i = 0; i < 4; i++) {
            x.undo();
        }
        Check.due("two", 2, x.count(1));
        x.goBack();
        Check.due("six", 6, x.count(1));
        Check.due("the speed of the sixth", 5, x.seamstress(5, 0));
        Check.dueThrow("no seventh", Check.STATE, x, () -> x.hire(1));
        x.undo();
        Check.due("two again", 2, x.count(1));
    }

    private static void goBackFrom120ShirtsToNone() {
        SewingPiles x = new SewingPiles();
        x.keep();
        for (int i = 0; i < 120; i++) {
            if (i % 30 == 0) {
                x.pass(99);
            }
            x.lay(i % 2, 2);
        }
        Check.dueThrow("120 came", Check.STATE, x, () -> x.lay(0, 1));
        x.goBack();
        Check.due("none came", 0, x.count(2));
        Check.due("the first one", 0, x.lay(0, 40));
        x.pass(1);
        Check.due("and it is divided", 1, x.count(8));
        x.undo();
        x.undo();
        x.undo();
        Check.due("120 are back", 120, x.count(2));
        Check.dueThrow("and no more can come", Check.STATE, x, () -> x.lay(0, 1));
    }

    private static void undoOfTheSixthSeamstress() {
        SewingPiles x = Rooms.of(6);
        x.lay(5, 9);
        x.undo();
        x.undo();
        Check.due("five", 5, x.count(1));
        Check.dueThrow("there is no 5", Check.BOUNDS, x, () -> x.lay(5, 9));
        Check.due("the sixth comes again", 5, x.hire(8));
        Check.due("with an empty pile", 0, x.seamstress(5, 1));
    }

    private static void undoOfTheSixteenthShirt() {
        SewingPiles x = new SewingPiles();
        for (int i = 0; i < 16; i++) {
            x.lay(1, 3);
        }
        x.undo();
        Check.due("15 lie", 15, x.seamstress(1, 1));
        Check.due("no 16th", SewingPiles.NONE, x.pile(1, 15));
        Check.due("its number comes again", 15, x.lay(1, 4));
        Check.dueThrow("a 17th", Check.STATE, x, () -> x.lay(1, 3));
    }

    private static void undoOfASewnShirt() {
        SewingPiles x = new SewingPiles();
        Check.write(x, "l0.3;m9");
        x.obey();
        Check.due("sewn by 0", 2, x.shirt(0, 1));
        x.undo();
        x.lay(1, 8);
        int[] due = {8, 0, 1};
        for (int what = 0; what < 3; what++) {
            Check.due("the one that comes in its place, number " + what, due[what], x.shirt(0, what));
        }
        Check.due("none is sewn", 0, x.count(3));
    }

    private static void undoOfADivision() {
        SewingPiles x = new SewingPiles();
        x.lay(1, 41);
        x.pass(1);
        Check.due("divided", 2, x.count(2));
        x.undo();
        Check.due("one", 1, x.count(2));
        Check.due("whole", 41, x.shirt(0, 0));
        Check.due("on the pile", 0, x.shirt(0, 1));
        Check.due("never divided", 0, x.count(8));
        Check.dueThrow("the half is not there", Check.BOUNDS, x, () -> x.shirt(1, 0));
    }

    private static void undoOfFallingAsleep() {
        SewingPiles x = new SewingPiles();
        x.pass(2);
        x.pass(5);
        Check.due("asleep", 2, x.count(9));
        x.undo();
        Check.due("awake", 0, x.count(9));
        Check.due("with two misses", 2, x.seamstress(0, 3));
        Check.due("two so far", 2, x.seamstress(0, 8));
        Check.due("no minute slept", 0, x.seamstress(0, 7));
    }
}
