import java.util.regex.Pattern;

/** Promises 8 to 11: append, clearBuffer, firstError, obey. */
public final class TextTest {
    private static final String PART = "(l[0-5]\\.[1-9][0-9]?|v[0-5][1-9]|w[0-5]|m[1-9][0-9]?)";
    private static final Pattern COMPLETE = Pattern.compile(PART + "(;" + PART + ")*");
    private static final Pattern BEGUN =
            Pattern.compile("(" + PART + ";)*(" + PART + "|l[0-5]?|l[0-5]\\.|v[0-5]?|w|m|)");

    public static void main(String[] args) {
        append();
        clearBuffer();
        firstErrorOfEachCode();
        firstErrorOfShortTexts();
        firstErrorOfLongTexts();
        obeyEach();
        obeyStopsAtTheFirstThatWouldThrow();
        obeyIsOneCall();
        obeyRefuses();
        Check.end();
    }

    private static void append() {
        SewingPiles x = new SewingPiles();
        Check.dueThrow("8: append(32)", Check.ARGUMENT, x, () -> x.append(32));
        Check.dueThrow("8: append(127)", Check.ARGUMENT, x, () -> x.append(127));
        Check.dueThrow("8: append(65536 + 'l')", Check.ARGUMENT, x, () -> x.append(65536 + 'l'));
        for (int i = 1; i <= 60; i++) {
            Check.due("8: length", i, x.append(i % 2 == 0 ? 33 : 126));
        }
        Check.dueThrow("8: a 61st", Check.STATE, x, () -> x.append('l'));
        Check.dueThrow("8: a 61st that is none", Check.ARGUMENT, x, () -> x.append(32));
        Check.due("8: nothing is saved", 0, x.count(11));
    }

    private static void clearBuffer() {
        SewingPiles x = new SewingPiles();
        Check.due("9: an empty one", 0, x.clearBuffer());
        Check.write(x, "m1;x");
        Check.due("9: its length", 4, x.clearBuffer());
        Check.due("9: it is clear", 0, x.firstError());
        Check.due("9: from the beginning", 1, x.append('m'));
        Check.due("9: nothing is saved", 0, x.count(11));
    }

    private static void firstErrorOfEachCode() {
        String[] begins = {"", "l", "l3", "l3.", "l3.4", "l3.44", "v", "v0", "v09", "w", "w5", "m", "m9", "m90",
            "w0;", "m1;l0.1;"};
        for (String begin : begins) {
            for (char code = 33; code <= 126; code++) {
                checkFirstError(begin + code);
            }
        }
    }

    private static void firstErrorOfShortTexts() {
        String signs = "lvwm0159.;";
        for (int number = 0; number < 10000; number++) {
            StringBuilder text = new StringBuilder();
            for (int rest = number, i = 0; i < 4; i++, rest /= 10) {
                text.append(signs.charAt(rest % 10));
            }
            checkFirstError(text.toString());
        }
    }

    private static void firstErrorOfLongTexts() {
        checkFirstError("");
        checkFirstError("l0.99;v51;w3;m99;l5.1;v09;w0;m1;l1.10;v11;w1;m10;l2.20;v22;w");
        checkFirstError("w0;".repeat(20));
        checkFirstError("w0;".repeat(19) + "w0x");
        checkFirstError("m100");
        checkFirstError("l0.100;m0");
        checkFirstError("l6.1");
        checkFirstError("L0.1");
    }

    private static void checkFirstError(String text) {
        SewingPiles x = new SewingPiles();
        Check.write(x, text);
        int due = 0;
        while (due < text.length() && BEGUN.matcher(text.substring(0, due + 1)).matches()) {
            due++;
        }
        Check.due("10: first error of " + text, due, x.firstError());
        Check.due("10: nothing is changed by it", text.length(), x.clearBuffer());
        Check.write(x, text);
        boolean complete = COMPLETE.matcher(text).matches();
        Check.due("11: " + text + " is complete", complete ? 1 : 0, Check.thrownBy(x::obey).equals("nothing") ? 1 : 0);
        Check.due("11: length behind obey", complete ? 0 : text.length(), x.clearBuffer());
    }

    private static void obeyEach() {
        SewingPiles x = new SewingPiles();
        x.pass(3);
        Check.write(x, "l1.9;v17;w1;m1;l0.88;m12");
        Check.due("11: all are done", 6, x.obey());
        Check.due("11: the buffer is clear", 0, x.clearBuffer());
        SewingPiles y = new SewingPiles();
        y.pass(3);
        y.lay(1, 9);
        y.speed(1, 7);
        y.wake(1);
        y.pass(1);
        y.lay(0, 88);
        y.pass(12);
        Check.due("11: saved states", 2, x.count(11));
        for (int i = 0; i < 4; i++) {
            x.wake(0);
        }
        y.undo();
        y.pass(12);
        for (int i = 0; i < 4; i++) {
            y.wake(0);
        }
        Check.due("11: the state is as by the methods", y.digest(), x.digest());
        SewingPiles z = new SewingPiles();
        Check.write(z, "l0.10;l0.19;l1.90;l1.99;l1.1;m10;m19;m90;m99;m1");
        z.set(0, 99);
        Check.due("11: numbers of two digits", 10, z.obey());
        Check.due("11: minutes", 219, z.count(0));
        z.undo();
        Check.write(z, "l0.10;l0.19;l1.90;l1.99;l1.1");
        z.obey();
        int[] works = {10, 19, 90, 99, 1};
        for (int shirt = 0; shirt < 5; shirt++) {
            Check.due("11: work of " + shirt, works[shirt], z.shirt(shirt, 0));
        }
    }

    private static void obeyStopsAtTheFirstThatWouldThrow() {
        checkStop("w0;w2;m5", 1, 0);
        checkStop("v19;v21;m5", 1, 0);
        checkStop("m5;l2.5;m5", 1, 5);
        checkStop("w5", 0, 0);
        SewingPiles x = new SewingPiles();
        for (int i = 0; i < 15; i++) {
            x.lay(0, 1);
        }
        Check.write(x, "l0.5;l0.6;l1.1");
        Check.due("11: stops at a full pile", 1, x.obey());
        Check.due("11: 16 shirts", 16, x.count(2));
        SewingPiles y = Rooms.withSewnShirts(119);
        Check.write(y, "l0.5;m1;l1.6;m7");
        Check.due("11: stops at 120 shirts", 2, y.obey());
        Check.due("11: 120 shirts", 120, y.count(2));
        SewingPiles z = new SewingPiles();
        z.hire(1);
        Check.write(z, "v29;l2.10;w2;w3");
        Check.due("11: a hired one obeys", 3, z.obey());
        Check.due("11: her speed", 9, z.seamstress(2, 0));
    }

    private static void checkStop(String text, int done, int minutes) {
        SewingPiles x = new SewingPiles();
        Check.write(x, text);
        Check.due("11: done of " + text, done, x.obey());
        Check.due("11: minutes of " + text, minutes, x.count(0));
        Check.due("11: the buffer is clear", 0, x.clearBuffer());
        Check.due("11: saved, also if none is done", 1, x.count(11));
    }

    private static void obeyIsOneCall() {
        SewingPiles x = new SewingPiles();
        long before = x.digest();
        Check.write(x, "v05;l0.77;m9");
        Check.due("11: all", 3, x.obey());
        Check.due("11: one state is saved", 1, x.count(11));
        Check.due("11: undone at once", 0, x.undo());
        Check.due("11: the state from before", before, x.digest());
    }

    private static void obeyRefuses() {
        for (String text : new String[] {"", ";", "w0;", "l0.", "l", "l0", "v0", "v", "w", "m", "w0w1", "m01", "l0.1;x"}) {
            SewingPiles x = new SewingPiles();
            Check.write(x, text);
            Check.dueThrow("11: obey of " + text, Check.ARGUMENT, x, x::obey);
            Check.due("11: nothing is saved", 0, x.count(11));
            Check.due("11: the buffer stays", text.length(), x.clearBuffer());
        }
    }
}
