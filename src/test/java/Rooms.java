/** Rooms that more than one test begins with; each is a new object. */
final class Rooms {
    private Rooms() {
    }

    /** So many seamstresses, all with speed 1. */
    static SewingPiles of(int seamstresses) {
        SewingPiles x = new SewingPiles();
        for (int who = 2; who < seamstresses; who++) {
            x.hire(1);
        }
        return x;
    }

    /** So many seamstresses, who all sleep; three minutes passed. */
    static SewingPiles asleep(int seamstresses) {
        SewingPiles x = of(seamstresses);
        x.pass(3);
        Check.due("all sleep", seamstresses, x.count(9));
        return x;
    }

    /** So many shirts came, all are sewn, and none was divided; the last call passed minutes. */
    static SewingPiles withSewnShirts(int shirts) {
        SewingPiles x = new SewingPiles();
        for (int i = 0; i < shirts; i++) {
            if (i % 32 == 31) {
                x.pass(40);
            }
            x.lay(i % 2, 1);
        }
        x.pass(40);
        Check.due("all are sewn", shirts, x.count(3));
        return x;
    }

    /** Six seamstresses, 16 shirts on each pile, no hand holds one; no shirt is divided with setting 0 at 99. */
    static SewingPiles withFullPiles(int work) {
        SewingPiles x = of(6);
        x.set(0, 99);
        for (int who = 0; who < 6; who++) {
            for (int i = 0; i < 16; i++) {
                x.lay(who, work);
            }
        }
        return x;
    }

    /** All that has a limit stands at it: six seamstresses, a full pile, 60 characters, six saved states. */
    static SewingPiles atItsLimits() {
        SewingPiles x = of(6);
        x.lay(0, 30);
        x.pass(2);
        x.keep();
        x.pass(5);
        for (int i = 0; i < 16; i++) {
            x.lay(5, 7 + i);
        }
        Check.write(x, "l0.5;w1;v29;m3;".repeat(4));
        return x;
    }
}
