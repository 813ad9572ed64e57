import java.util.Random;

/** Long runs of calls, with right and wrong arguments, answered as by the model; always the same runs. */
public final class ModelTest {
    private static final int RUNS = 300;
    private static final int CALLS = 512;
    private static final int MOST_CALLS_OF_A_STEP = 9;

    private final Random random;
    private final SewingPiles piles = new SewingPiles();
    private final Model model = new Model();
    private final int workers;
    private final int mostWork;
    private int calls = 0;

    private ModelTest(int run) {
        random = new Random(run);
        workers = random.nextInt(5);
        mostWork = run % 3 == 0 ? 99 : run % 3 == 1 ? 40 : 8;
    }

    public static void main(String[] args) {
        for (int run = 0; run < RUNS; run++) {
            new ModelTest(run).run(run);
        }
        Check.end();
    }

    private void run(int run) {
        for (int call = 0; call < workers; call++) {
            same("run " + run + " hire", () -> piles.hire(2), () -> model.hire(2));
        }
        while (calls + MOST_CALLS_OF_A_STEP < CALLS) {
            String name = "run " + run + ", call " + calls;
            if (random.nextInt(3) > 0) {
                change(name, random.nextInt(100));
            } else {
                look(name, random.nextInt(14));
            }
        }
        same("run " + run + " digest", piles::digest, model::digest);
    }

    /** Mostly a right argument, at times one beside the range. */
    private int about(int least, int most) {
        switch (random.nextInt(40)) {
            case 0:
                return least - 1;
            case 1:
                return most + 1;
            case 2:
                return random.nextInt();
            default:
                return least + random.nextInt(most - least + 1);
        }
    }

    private int anyone() {
        return about(0, workers + 1);
    }

    private void change(String name, int kind) {
        if (kind < 45) {
            int who = anyone();
            int work = about(1, mostWork);
            same(name + " lay", () -> piles.lay(who, work), () -> model.lay(who, work));
        } else if (kind < 65) {
            int minutes = random.nextInt(8) == 0 ? about(1, 99) : about(1, 6);
            same(name + " pass", () -> piles.pass(minutes), () -> model.pass(minutes));
        } else if (kind < 70) {
            int who = anyone();
            same(name + " wake", () -> piles.wake(who), () -> model.wake(who));
        } else if (kind < 75) {
            int who = anyone();
            int speed = about(1, 9);
            same(name + " speed", () -> piles.speed(who, speed), () -> model.speed(who, speed));
        } else if (kind < 80) {
            int setting = about(0, 2);
            int value = setting == 0 ? about(2, 99) : setting == 1 ? about(0, 2) : about(1, 20);
            same(name + " set", () -> piles.set(setting, value), () -> model.set(setting, value));
        } else if (kind < 82) {
            int speed = about(1, 9);
            same(name + " hire", () -> piles.hire(speed), () -> model.hire(speed));
        } else if (kind < 85) {
            same(name + " undo", piles::undo, model::undo);
        } else if (kind < 86) {
            same(name + " goBack", piles::goBack, model::goBack);
        } else if (kind < 88) {
            same(name + " keep", piles::keep, model::keep);
        } else if (kind < 90) {
            same(name + " clearBuffer", piles::clearBuffer, model::clearBuffer);
        } else if (kind < 94) {
            same(name + " obey", piles::obey, model::obey);
        } else {
            write(name);
        }
    }

    private void write(String name) {
        String text = random.nextInt(4) == 0 ? "" : ";";
        switch (random.nextInt(5)) {
            case 0:
                text += "l" + random.nextInt(6) + "." + (1 + random.nextInt(100));
                break;
            case 1:
                text += "v" + random.nextInt(6) + (1 + random.nextInt(9));
                break;
            case 2:
                text += "w" + random.nextInt(7);
                break;
            case 3:
                text += "m" + (1 + random.nextInt(30));
                break;
            default:
                text = "" + (char) (33 + random.nextInt(94));
        }
        if (model.hasNoText() && text.charAt(0) == ';') {
            text = text.substring(1);
        }
        for (char code : text.toCharArray()) {
            same(name + " append", () -> piles.append(code), () -> model.append(code));
        }
        same(name + " firstError", piles::firstError, model::firstError);
    }

    private void look(String name, int kind) {
        int who = anyone();
        int what = about(0, 12);
        int shirt = about(0, 119);
        int minutes = about(1, 200);
        switch (kind) {
            case 0:
            case 1:
                same(name + " seamstress", () -> piles.seamstress(who, what), () -> model.seamstress(who, what));
                break;
            case 2:
                same(name + " pile", () -> piles.pile(who, what), () -> model.pile(who, what));
                break;
            case 3:
                same(name + " shirt", () -> piles.shirt(shirt, what % 4), () -> model.shirt(shirt, what % 4));
                break;
            case 4:
            case 5:
                same(name + " count", () -> piles.count(what), () -> model.count(what));
                break;
            case 6:
                same(name + " choice", () -> piles.choice(who), () -> model.choice(who));
                break;
            case 7:
                same(name + " doneIn", piles::doneIn, model::doneIn);
                break;
            case 8:
                same(name + " doneAlone", piles::doneAlone, model::doneAlone);
                break;
            case 9:
                same(name + " doneWith", () -> piles.doneWith(what), () -> model.doneWith(what));
                break;
            case 10:
                same(name + " ifPassed", () -> piles.ifPassed(minutes, what % 5), () -> model.ifPassed(minutes, what % 5));
                break;
            case 11:
                same(name + " takenShare", () -> Double.doubleToLongBits(piles.takenShare()), model::takenShare);
                break;
            case 12:
                same(name + " evenness", () -> Float.floatToIntBits(piles.evenness()), model::evenness);
                break;
            default:
                same(name + " digest", piles::digest, model::digest);
        }
    }

    private void same(String name, Check.Call call, Check.Call due) {
        calls++;
        long[] answers = new long[2];
        String dueThrow = Check.thrownBy(() -> answers[0] = due.answer());
        String threw = Check.thrownBy(() -> answers[1] = call.answer());
        Check.due(name + " throws " + threw + ", due is " + dueThrow, 1, threw.equals(dueThrow) ? 1 : 0);
        Check.due(name, answers[0], answers[1]);
    }
}
