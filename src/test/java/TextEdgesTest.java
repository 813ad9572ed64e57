/** The document's Input text and promises 8 to 11, sentence by sentence, at the ends of what may be written. */
public final class TextEdgesTest {
    private static final String SIXTY = "w0;".repeat(19) + "m10";

    public static void main(String[] args) {
        bufferHasAtMost60Characters();
        characterCodesAre33To126();
        clearingReturnsTheLengthThatItHad();
        clearedBufferHasRoomFor60Again();
        textIsOneOrMoreParts();
        semicolonStandsBetweenParts();
        laySeamstressIs0To5();
        layHasADot();
        layWorkIs1To99WithoutLeadingZeros();
        speedSeamstressIs0To5();
        speedIs1To9();
        wakeSeamstressIs0To5();
        minutesAre1To99WithoutLeadingZeros();
        firstOfSeveralErrors();
        errorAtTheFirstAndAtTheLastCharacter();
        lengthIfThereIsNoError();
        ordersOfAnyLength();
        obeyRefusesWhatIsNotComplete();
        obeyOfAFullBuffer();
        obeyStopsAtASeamstressWhoIsNotThere();
        obeyStopsAtAFullPile();
        obeyStopsAtThe121stShirt();
        obeyDoesTheGreatestNumbers();
        obeyIsUndoneAsOneCall();
        obeyOfNoneIsUndoable();
        obeyClearsTheBufferAlsoWhenItStops();
        obeyIsAsTheMethods();
        Check.end();
    }

    private static SewingPiles roomWithText(String text) {
        SewingPiles x = new SewingPiles();
        Check.write(x, text);
        return x;
    }

    /** An error at an index; the length where there is none; and obey() takes it only if it is complete. */
    private static void dueText(String text, int error, boolean complete) {
        SewingPiles x = roomWithText(text);
        Check.due("first error of " + text, error, x.firstError());
        Check.dueThrown("obey of " + text, complete ? "nothing" : Check.ARGUMENT, x::obey);
        Check.due("length behind obey of " + text, complete ? 0 : text.length(), x.clearBuffer());
    }

    private static void dueComplete(String text) {
        dueText(text, text.length(), true);
    }

    private static void dueUnfinished(String text) {
        dueText(text, text.length(), false);
    }

    private static void dueError(String text, int error) {
        dueText(text, error, false);
    }

    /** "The buffer has at most 60 characters." */
    private static void bufferHasAtMost60Characters() {
        SewingPiles x = new SewingPiles();
        for (int length = 1; length <= 60; length++) {
            Check.due("the new length", length, x.append('x'));
        }
        Check.dueThrow("a 61st", Check.STATE, x, () -> x.append('x'));
        Check.due("60 stay", 60, x.clearBuffer());
    }

    /** "code: the character code, 33 to 126" */
    private static void characterCodesAre33To126() {
        SewingPiles x = new SewingPiles();
        Check.due("33", 1, x.append(33));
        Check.due("126", 2, x.append(126));
        Check.dueThrow("32", Check.ARGUMENT, x, () -> x.append(32));
        Check.dueThrow("127", Check.ARGUMENT, x, () -> x.append(127));
        Check.dueThrow("a code that is 'm' in its last 8 bits", Check.ARGUMENT, x, () -> x.append(256 + 'm'));
        Check.dueThrow("a code that is 'm' in its last 16 bits", Check.ARGUMENT, x, () -> x.append(65536 + 'm'));
        Check.due("two stay", 2, x.clearBuffer());
    }

    /** "Returns the length that it had." */
    private static void clearingReturnsTheLengthThatItHad() {
        Check.due("of an empty one", 0, new SewingPiles().clearBuffer());
        Check.due("of one", 1, roomWithText("x").clearBuffer());
        SewingPiles x = roomWithText(SIXTY);
        Check.due("of a full one", 60, x.clearBuffer());
        Check.due("of a cleared one", 0, x.clearBuffer());
    }

    private static void clearedBufferHasRoomFor60Again() {
        SewingPiles x = roomWithText("x".repeat(60));
        x.clearBuffer();
        Check.write(x, SIXTY);
        Check.due("what stood there is forgotten", 60, x.firstError());
        Check.due("and the new orders are done", 20, x.obey());
        Check.write(x, "m1");
        Check.due("a shorter text behind a longer one", 2, x.firstError());
        Check.due("is the whole text", 1, x.obey());
        Check.due("eleven minutes", 11, x.count(0));
    }

    /** "Orders as a text are one or more parts" */
    private static void textIsOneOrMoreParts() {
        dueUnfinished("");
        dueComplete("m1");
        dueComplete("m1;m1");
        dueComplete("l0.1;v01;w0;m1");
        dueComplete(SIXTY);
    }

    /** "with ";" between them" */
    private static void semicolonStandsBetweenParts() {
        dueError(";", 0);
        dueError(";m1", 0);
        dueUnfinished("m1;");
        dueError("m1;;m1", 3);
        dueError("m1m1", 2);
        dueError("w0w0", 2);
        dueError("v01w0", 3);
        dueError("l0.1l0.1", 4);
        dueError("l0.11l0.1", 5);
        dueError("m11,m1", 3);
        dueError("m1:m1", 2);
    }

    /** Those beside '0' and '5' are told too: '/' and '6', and ':' behind '9'. */
    private static void dueSeamstress0To5(String before, String behind) {
        for (char who = '/'; who <= ':'; who++) {
            if (who >= '0' && who <= '5') {
                dueComplete(before + who + behind);
            } else {
                dueError(before + who + behind, before.length());
            }
        }
        dueUnfinished(before);
    }

    /** ""l", a seamstress, 0 to 5" */
    private static void laySeamstressIs0To5() {
        dueSeamstress0To5("l", ".1");
    }

    private static void layHasADot() {
        dueUnfinished("l0");
        dueUnfinished("l0.");
        dueError("l01", 2);
        dueError("l0,1", 2);
        dueError("l0-1", 2);
        dueError("l0/1", 2);
        dueError("l0..1", 3);
        dueError("l0.;", 3);
    }

    /** "and work, 1 to 99"; "Numbers are without leading zeros." */
    private static void layWorkIs1To99WithoutLeadingZeros() {
        due1To99("l0.");
    }

    private static void due1To99(String before) {
        int start = before.length();
        for (int number = 1; number <= 99; number++) {
            dueComplete(before + number);
        }
        dueError(before + "0", start);
        dueError(before + "01", start);
        dueError(before + "09", start);
        dueError(before + "00", start);
        dueError(before + "100", start + 2);
        dueError(before + "990", start + 2);
        dueError(before + "999", start + 2);
        dueError(before + "/", start);
        dueError(before + ":", start);
        dueError(before + "-1", start);
        dueError(before + "+1", start);
        dueError(before + "1/", start + 1);
        dueError(before + "1:", start + 1);
        dueUnfinished(before);
    }

    /** ""v", a seamstress, 0 to 5" */
    private static void speedSeamstressIs0To5() {
        dueSeamstress0To5("v", "1");
    }

    /** "and a speed, 1 to 9" */
    private static void speedIs1To9() {
        for (char speed = '1'; speed <= '9'; speed++) {
            dueComplete("v0" + speed);
        }
        dueUnfinished("v0");
        dueError("v00", 2);
        dueError("v0/", 2);
        dueError("v0:", 2);
        dueError("v0.1", 2);
        dueError("v010", 3);
        dueError("v001", 2);
        dueError("v099", 3);
    }

    /** ""w" and a seamstress, 0 to 5" */
    private static void wakeSeamstressIs0To5() {
        dueSeamstress0To5("w", "");
        dueError("w00", 2);
        dueError("w0.", 2);
    }

    /** ""m" and minutes, 1 to 99"; "Numbers are without leading zeros." */
    private static void minutesAre1To99WithoutLeadingZeros() {
        due1To99("m");
    }

    /** "Finds the first syntax error of the buffer." */
    private static void firstOfSeveralErrors() {
        dueError("m1xx", 2);
        dueError("xm1x", 0);
        dueError("w0;x;w0;x", 3);
        dueError("l0.1;v09;w6;m0", 10);
        dueError("M1", 0);
        dueError("L0.1", 0);
        dueError("k", 0);
        dueError("n", 0);
    }

    /** "the index of the first character that is a syntax error" */
    private static void errorAtTheFirstAndAtTheLastCharacter() {
        dueError("~" + SIXTY.substring(1), 0);
        dueError(SIXTY.substring(0, 59) + "!", 59);
        dueError(SIXTY.substring(0, 58) + "00", 58);
    }

    /** "the length of the buffer if there is none" */
    private static void lengthIfThereIsNoError() {
        dueUnfinished("");
        dueComplete(SIXTY);
        dueUnfinished("w0;".repeat(20));
    }

    /** "if no orders as a text, of any length, begin with the characters before it and this character" */
    private static void ordersOfAnyLength() {
        String almost = "w0;".repeat(19);
        dueUnfinished(almost + "w0;");
        dueUnfinished(almost + "l0.");
        dueUnfinished("w0;".repeat(18) + "m99;" + "l0");
        dueUnfinished("w0;".repeat(17) + "m99;m99;" + "l");
        dueUnfinished("w0;".repeat(17) + "m99;m99;" + "w");
        dueUnfinished("w0;".repeat(17) + "m99;m99;" + "v");
        dueUnfinished("w0;".repeat(17) + "m99;m99;" + "m");
        dueError("w0;".repeat(17) + "m99;m99;" + "x", 59);
    }

    /** "if the buffer is not complete orders as a text" */
    private static void obeyRefusesWhatIsNotComplete() {
        for (String text : new String[] {"", "l", "l0", "l0.", "v", "v0", "w", "m", "m1;", "m5;w", "m1;x", "x", "m0"}) {
            SewingPiles x = roomWithText(text);
            Check.dueThrow("obey of " + text, Check.ARGUMENT, x, x::obey);
            Check.due("the orders before the fault are not done", 0, x.count(0));
            Check.due("nothing is saved", 0, x.count(11));
            Check.due("the buffer stays", text.length(), x.clearBuffer());
        }
    }

    private static void obeyOfAFullBuffer() {
        SewingPiles x = roomWithText(SIXTY);
        Check.due("20 orders", 20, x.obey());
        Check.due("the last one too", 10, x.count(0));
        SewingPiles y = roomWithText("m1;".repeat(19) + "m2");
        Check.due("20 orders of 59 characters", 20, y.obey());
        Check.due("21 minutes", 21, y.count(0));
    }

    /** "up to the first one that would throw an exception" */
    private static void obeyStopsAtASeamstressWhoIsNotThere() {
        for (String order : new String[] {"l%d.1", "v%d2", "w%d"}) {
            SewingPiles x = roomWithText("m1;" + String.format(order, 1) + ";" + String.format(order, 2) + ";m1");
            Check.due("stops at 2: " + order, 2, x.obey());
            Check.due("what stands behind is not done", 1, x.count(0));
            x.hire(1);
            Check.write(x, "m1;" + String.format(order, 2) + ";" + String.format(order, 3) + ";m1");
            Check.due("stops at 3: " + order, 2, x.obey());
            SewingPiles six = Rooms.of(6);
            Check.write(six, String.format(order, 5) + ";m1");
            Check.due("5 is there: " + order, 2, six.obey());
        }
    }

    private static void obeyStopsAtAFullPile() {
        SewingPiles x = roomWithText("l0.1;".repeat(8) + "l0.1;l0.1;l0.1;l0.1");
        Check.due("twelve", 12, x.obey());
        Check.write(x, "l0.1;".repeat(5) + "l1.1;m1");
        Check.due("four more, to 16", 4, x.obey());
        Check.due("16 lie", 16, x.seamstress(0, 1));
        Check.due("none lies with 1", 0, x.seamstress(1, 1));
        Check.due("no minute passed", 0, x.count(0));
        Check.write(x, "m1;l0.1;l0.1;l0.1");
        Check.due("two were taken, so two can be laid", 3, x.obey());
    }

    private static void obeyStopsAtThe121stShirt() {
        SewingPiles x = Rooms.withSewnShirts(118);
        Check.write(x, "l0.1;l1.1;l0.1;w0");
        Check.due("two, to 120", 2, x.obey());
        Check.due("120 came", 120, x.count(2));
        Check.write(x, "w0;l1.1;w1");
        Check.due("no more", 1, x.obey());
    }

    private static void obeyDoesTheGreatestNumbers() {
        SewingPiles x = Rooms.of(6);
        Check.write(x, "l5.99;v59;l0.1;v01;w5;w0;m99;m1");
        Check.due("all", 8, x.obey());
        Check.due("100 minutes", 100, x.count(0));
        Check.due("all is sewn", 0, x.count(10));
        Check.due("speed 9", 9, x.seamstress(5, 0));
        Check.due("speed 1", 1, x.seamstress(0, 0));
        x.undo();
        Check.write(x, "l5.99;l0.1");
        x.obey();
        Check.due("work 99", 99, x.shirt(0, 0));
        Check.due("work 1", 1, x.shirt(1, 0));
    }

    /** "Undoable, as one call" */
    private static void obeyIsUndoneAsOneCall() {
        SewingPiles x = new SewingPiles();
        x.pass(2);
        long before = x.digest();
        Check.write(x, "l0.50;v09;m9;w1;m99");
        Check.due("five", 5, x.obey());
        Check.due("one state more is saved", 2, x.count(11));
        Check.due("one undo", 1, x.undo());
        Check.due("all is as before", before, x.digest());
    }

    /** "also if none is done" */
    private static void obeyOfNoneIsUndoable() {
        SewingPiles x = roomWithText("w2;m5");
        Check.due("none is done", 0, x.obey());
        Check.due("one state is saved", 1, x.count(11));
        Check.due("none is left", 0, x.undo());
        Check.due("as a new object", new SewingPiles().digest(), x.digest());
    }

    /** "and clears the buffer" */
    private static void obeyClearsTheBufferAlsoWhenItStops() {
        SewingPiles all = roomWithText("m5;m5");
        all.obey();
        Check.due("when all are done", 0, all.clearBuffer());
        SewingPiles some = roomWithText("m5;w2;m5");
        some.obey();
        Check.due("when one is done", 0, some.clearBuffer());
        SewingPiles none = roomWithText("w2");
        none.obey();
        Check.due("when none is done", 0, none.clearBuffer());
    }

    /** "as the methods lay(), speed(), wake() and pass() do" */
    private static void obeyIsAsTheMethods() {
        SewingPiles x = Rooms.asleep(6);
        SewingPiles y = Rooms.asleep(6);
        x.wake(3);
        y.wake(3);
        Check.write(x, "m1;w3;l4.50;v37;m2;l0.3;l5.21;m3");
        Check.due("all", 8, x.obey());
        y.pass(1);
        y.wake(3);
        y.lay(4, 50);
        y.speed(3, 7);
        y.pass(2);
        y.lay(0, 3);
        y.lay(5, 21);
        y.pass(3);
        for (int what = 0; what <= 10; what++) {
            Check.due("count(" + what + ")", y.count(what), x.count(what));
        }
        for (int who = 0; who < 6; who++) {
            for (int what = 0; what <= 9; what++) {
                Check.due("seamstress(" + who + ", " + what + ")", y.seamstress(who, what), x.seamstress(who, what));
            }
        }
    }
}
