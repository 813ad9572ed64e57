/** Counts and prints the answers that are not the due ones; a test's main ends with end(). */
final class Check {
    static final String BOUNDS = "IndexOutOfBoundsException";
    static final String ARGUMENT = "IllegalArgumentException";
    static final String STATE = "IllegalStateException";

    private static int checks = 0;
    private static int wrong = 0;

    private Check() {
    }

    interface Call {
        long answer();
    }

    static void due(String what, long want, long got) {
        checks++;
        if (want != got) {
            wrong++;
            System.out.println(what + ": answered " + got + ", due is " + want);
        }
    }

    static void dueShare(String what, double want, double got) {
        checks++;
        if (Double.doubleToLongBits(want) != Double.doubleToLongBits(got)) {
            wrong++;
            System.out.println(what + ": answered " + got + ", due is " + want);
        }
    }

    /** The call throws exactly that class, and the object's digest is the same behind it. */
    static void dueThrow(String what, String want, SewingPiles piles, Call call) {
        long before = piles.digest();
        dueThrown(what, want, call);
        due(what + " changes nothing", before, piles.digest());
    }

    /**
     * Both objects are in the same state: the digests are, and what no digest tells, the saved states and the
     * snapshot, is gone through. The objects are used up by it.
     */
    static void dueTwins(String what, SewingPiles want, SewingPiles got) {
        due(what + ", digest", want.digest(), got.digest());
        due(what + ", first error", want.firstError(), got.firstError());
        for (int back = 1; back <= 7; back++) {
            dueSameCall(what + ", undo " + back, want, got, SewingPiles::undo);
        }
        dueSameCall(what + ", goBack", want, got, SewingPiles::goBack);
        dueSameCall(what + ", obey", want, got, SewingPiles::obey);
        dueSameCall(what + ", clearBuffer", want, got, SewingPiles::clearBuffer);
    }

    interface CallOf {
        long answer(SewingPiles piles);
    }

    private static void dueSameCall(String what, SewingPiles want, SewingPiles got, CallOf call) {
        long[] answers = new long[2];
        String dueThrow = thrownBy(() -> answers[0] = call.answer(want));
        dueThrown(what, dueThrow, () -> answers[1] = call.answer(got));
        due(what, answers[0], answers[1]);
        due(what + ", digest behind it", want.digest(), got.digest());
    }

    static void dueThrown(String what, String want, Call call) {
        String got = thrownBy(call);
        checks++;
        if (!want.equals(got)) {
            wrong++;
            System.out.println(what + ": threw " + got + ", due is " + want);
        }
    }

    static String thrownBy(Call call) {
        try {
            call.answer();
            return "nothing";
        } catch (RuntimeException e) {
            return e.getClass().getSimpleName();
        }
    }

    /** Lays shirts onto her pile, one after the other. */
    static void layAll(SewingPiles piles, int who, int... works) {
        for (int work : works) {
            piles.lay(who, work);
        }
    }

    static void write(SewingPiles piles, String orders) {
        for (int i = 0; i < orders.length(); i++) {
            piles.append(orders.charAt(i));
        }
    }

    static void end() {
        System.out.println(checks + " checks, " + wrong + " wrong");
        if (wrong != 0 || checks == 0) {
            System.exit(1);
        }
    }
}
