/** Promise 27: digest is the hash of the document's list, as the other methods tell it. */
public final class DigestTest {
    public static void main(String[] args) {
        ofNewObject();
        ofManyStates();
        ofEachShare();
        ofSmallShares();
        ofSnapshotAndBuffer();
        Check.end();
    }

    /** The digest by the document, from the public methods; no text and no snapshot are seen by these. */
    static long dueDigest(SewingPiles x, String buffer, boolean hasSnapshot) {
        long hash = 3319;
        for (int what = 0; what <= 11; what++) {
            hash = 31 * hash + x.count(what);
        }
        for (int setting = 0; setting <= 2; setting++) {
            hash = 31 * hash + x.setting(setting);
        }
        for (int who = 0; who < x.count(1); who++) {
            for (int what = 0; what <= 9; what++) {
                hash = 31 * hash + x.seamstress(who, what);
            }
            for (int place = 0; place < x.seamstress(who, 1); place++) {
                hash = 31 * hash + x.pile(who, place);
            }
            hash = 31 * hash + x.choice(who);
        }
        for (int shirt = 0; shirt < x.count(2); shirt++) {
            for (int what = 0; what <= 2; what++) {
                hash = 31 * hash + x.shirt(shirt, what);
            }
        }
        hash = 31 * hash + x.doneIn();
        hash = 31 * hash + x.doneAlone();
        hash = 31 * hash + x.doneWith(1);
        hash = 31 * hash + x.doneWith(9);
        for (int what = 0; what <= 3; what++) {
            hash = 31 * hash + x.ifPassed(10, what);
        }
        hash = 31 * hash + Double.doubleToLongBits(x.takenShare());
        hash = 31 * hash + Float.floatToIntBits(x.evenness());
        hash = 31 * hash + (hasSnapshot ? 1 : 0);
        hash = 31 * hash + buffer.length();
        for (int i = 0; i < buffer.length(); i++) {
            hash = 31 * hash + buffer.charAt(i);
        }
        return hash;
    }

    private static void ofNewObject() {
        SewingPiles x = new SewingPiles();
        Check.due("27: a new object", dueDigest(x, "", false), x.digest());
    }

    private static void ofManyStates() {
        SewingPiles x = new SewingPiles();
        x.hire(9);
        x.hire(2);
        Check.layAll(x, 1, 70, 5, 33);
        Check.layAll(x, 3, 99, 98);
        Check.due("27: shirts on piles", dueDigest(x, "", false), x.digest());
        x.pass(4);
        Check.due("27: shirts in hands", dueDigest(x, "", false), x.digest());
        x.pass(99);
        x.set(2, 20);
        Check.due("27: all sewn", dueDigest(x, "", false), x.digest());
        x.undo();
        Check.due("27: undone", dueDigest(x, "", false), x.digest());
    }

    /** Every evenness of a to b, and many a share that was taken, gives its own bits. */
    private static void ofEachShare() {
        for (int a = 1; a <= 99; a += 7) {
            for (int b = 1; b <= 99; b += 5) {
                SewingPiles x = new SewingPiles();
                x.lay(0, a);
                x.lay(1, b);
                Check.due("27: loads " + a + " and " + b, dueDigest(x, "", false), x.digest());
            }
        }
        for (int shirts = 1; shirts <= 16; shirts++) {
            SewingPiles x = new SewingPiles();
            for (int i = 0; i < shirts; i++) {
                x.lay(i % 5 == 0 ? 1 : 0, 1 + i);
            }
            for (int minute = 0; minute < 6; minute++) {
                x.pass(9);
                Check.due("27: shares of " + shirts, dueDigest(x, "", false), x.digest());
                Check.due("27: the same again", x.digest(), x.digest());
                if (x.count(4) == 0) {
                    break;
                }
            }
        }
    }

    /** One shirt of n was taken from another one: shares of 1/2 down to 1/40. */
    private static void ofSmallShares() {
        SewingPiles x = new SewingPiles();
        Check.layAll(x, 0, 1, 1);
        x.pass(2);
        for (int taken = 2; taken <= 40; taken++) {
            Check.dueShare("25: one of " + taken, 1.0 / taken, x.takenShare());
            Check.due("27: one of " + taken, dueDigest(x, "", false), x.digest());
            x.lay(0, 1);
            x.pass(2);
        }
    }

    private static void ofSnapshotAndBuffer() {
        SewingPiles x = new SewingPiles();
        x.keep();
        Check.due("27: a snapshot", dueDigest(x, "", true), x.digest());
        Check.write(x, "~l0.5!");
        Check.due("27: a buffer", dueDigest(x, "~l0.5!", true), x.digest());
        x.clearBuffer();
        x.append('m');
        Check.due("27: another buffer", dueDigest(x, "m", true), x.digest());
        for (int i = 1; i < 60; i++) {
            x.append('9');
        }
        Check.due("27: a full buffer", dueDigest(x, "m" + "9".repeat(59), true), x.digest());
    }
}
