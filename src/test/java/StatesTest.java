/** Promises 12 to 14: keep, goBack, undo. */
public final class StatesTest {
    public static void main(String[] args) {
        keep();
        goBack();
        undo();
        undoRestoresAll();
        whatComesBehindUndoIsNew();
        undoLeavesBufferAndSnapshot();
        atMostSix();
        throwingSavesNothing();
        Check.end();
    }

    private static void keep() {
        SewingPiles x = new SewingPiles();
        x.pass(7);
        long before = x.digest();
        Check.due("12: the minutes", 7, x.keep());
        Check.due("12: nothing is saved", 1, x.count(11));
        Check.due("12: but there is a snapshot", 1, x.digest() == before ? 0 : 1);
        x.pass(5);
        Check.due("12: in place of the one that was", 12, x.keep());
        x.pass(4);
        Check.due("12: back to the later one", 12, x.goBack());
    }

    private static void goBack() {
        SewingPiles x = new SewingPiles();
        Check.dueThrow("13: no snapshot", Check.STATE, x, x::goBack);
        Check.due("13: nothing is saved then", 0, x.count(11));
        Check.layAll(x, 0, 50, 7, 9);
        x.pass(3);
        Check.write(x, "m5");
        x.keep();
        int[] before = looks(x);
        x.hire(9);
        x.set(1, 2);
        x.pass(50);
        Check.due("13: goBack", 3, x.goBack());
        dueLooks("13: all is as it was", before, looks(x));
        Check.due("13: the buffer is not", 2, x.clearBuffer());
        x.pass(9);
        Check.due("13: the snapshot stays", 3, x.goBack());
        dueLooks("13: and is unchanged", before, looks(x));
        x.undo();
        Check.due("13: undoable", 12, x.count(0));
        x.undo();
        x.undo();
        Check.due("13: undo of the first goBack", 53, x.count(0));
        Check.due("13: the hired one is there", 3, x.count(1));
    }

    private static void undo() {
        SewingPiles x = new SewingPiles();
        Check.dueThrow("14: nothing is saved", Check.STATE, x, x::undo);
        x.pass(1);
        x.lay(0, 5);
        Check.due("14: one is left", 1, x.undo());
        Check.due("14: no shirt", 0, x.count(2));
        Check.due("14: one minute", 1, x.count(0));
        Check.due("14: none is left", 0, x.undo());
        Check.due("14: no minute", 0, x.count(0));
        Check.dueThrow("14: none", Check.STATE, x, x::undo);
        Check.due("14: as a new one", new SewingPiles().digest(), x.digest());
    }

    private static void undoRestoresAll() {
        SewingPiles x = new SewingPiles();
        x.hire(3);
        Check.layAll(x, 0, 60, 33, 8);
        x.pass(6);
        long before = x.digest();
        int[] looks = looks(x);
        double share = x.takenShare();
        x.pass(99);
        x.undo();
        dueLooks("14: all looks", looks, looks(x));
        Check.dueShare("14: takenShare", share, x.takenShare());
        Check.due("14: digest", before, x.digest());
        x.set(2, 9);
        x.undo();
        Check.due("14: the setting", 3, x.setting(2));
        x.speed(1, 9);
        x.undo();
        Check.due("14: the speed", 1, x.seamstress(1, 0));
    }

    private static void whatComesBehindUndoIsNew() {
        SewingPiles x = new SewingPiles();
        x.hire(9);
        Check.write(x, "l1.1;m9");
        x.obey();
        x.undo();
        x.undo();
        x.lay(0, 7);
        Check.due("14: the shirt's work", 7, x.shirt(0, 0));
        Check.due("14: it lies", 0, x.shirt(0, 1));
        Check.due("14: on pile 0", 0, x.shirt(0, 2));
        x.hire(4);
        int[] due = {4, 0, -1, 0, 0, 0, 0, 0, 0, 0};
        for (int what = 0; what < 10; what++) {
            Check.due("14: hired again, number " + what, due[what], x.seamstress(2, what));
        }
    }

    private static void undoLeavesBufferAndSnapshot() {
        SewingPiles x = new SewingPiles();
        x.pass(1);
        x.keep();
        x.append('m');
        x.undo();
        Check.due("14: the snapshot is not undone", 1, x.goBack());
        Check.due("14: nor the buffer", 2, x.append('4'));
        x.obey();
        x.undo();
        Check.due("14: nor that obey() cleared it", 0, x.clearBuffer());
    }

    private static void atMostSix() {
        SewingPiles x = new SewingPiles();
        for (int i = 1; i <= 20; i++) {
            x.pass(i);
            Check.due("14: saved", Math.min(i, 6), x.count(11));
        }
        int minutes = 210;
        for (int i = 20; i > 14; i--) {
            Check.due("14: left", i - 15, x.undo());
            minutes -= i;
            Check.due("14: minutes", minutes, x.count(0));
        }
        Check.dueThrow("14: the older ones are dropped", Check.STATE, x, x::undo);
        x.wake(0);
        Check.due("14: saved again", 1, x.count(11));
    }

    private static void throwingSavesNothing() {
        SewingPiles x = new SewingPiles();
        x.pass(1);
        Check.thrownBy(() -> x.hire(0));
        Check.thrownBy(() -> x.speed(0, 0));
        Check.thrownBy(() -> x.lay(0, 0));
        Check.thrownBy(() -> x.wake(5));
        Check.thrownBy(() -> x.pass(0));
        Check.thrownBy(() -> x.set(0, 0));
        Check.thrownBy(x::obey);
        Check.thrownBy(x::goBack);
        Check.due("14: one is saved", 1, x.count(11));
        x.set(0, 20);
        Check.due("14: saved also if it changes nothing", 2, x.count(11));
    }

    private static int[] looks(SewingPiles x) {
        int[] looks = new int[1000];
        int n = 0;
        for (int what = 0; what <= 10; what++) {
            looks[n++] = x.count(what);
        }
        for (int setting = 0; setting <= 2; setting++) {
            looks[n++] = x.setting(setting);
        }
        for (int who = 0; who < x.count(1); who++) {
            for (int what = 0; what <= 9; what++) {
                looks[n++] = x.seamstress(who, what);
            }
            for (int place = 0; place <= 16; place++) {
                looks[n++] = x.pile(who, place);
            }
        }
        for (int shirt = 0; shirt < x.count(2); shirt++) {
            for (int what = 0; what <= 2; what++) {
                looks[n++] = x.shirt(shirt, what);
            }
        }
        return looks;
    }

    private static void dueLooks(String what, int[] want, int[] got) {
        for (int i = 0; i < want.length; i++) {
            Check.due(what + ", look " + i, want[i], got[i]);
        }
    }
}
