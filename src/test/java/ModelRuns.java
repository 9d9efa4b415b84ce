import java.util.Random;

/** Runs of up to 512 calls, drawn from fixed seeds, on a house and on the plain model of the document. */
public final class ModelRuns {
    private static final int RUNS = 8000;
    private static final int CALLS = 512;
    /** No step of a run makes more calls than this. */
    private static final int CALLS_A_STEP = 16;
    private static final int[] WORDS = {0, 1, -1, 2, 70000, -70000, 0x2D313233, 0x30303937, 0x35, 0x2D, 0x80000000,
        0x7FFFFFFF, 0x41004200, 0x39393939};
    private static final int[] EXTREMES = {Integer.MIN_VALUE, Integer.MIN_VALUE + 1, -1000, 1000, Integer.MAX_VALUE - 1,
        Integer.MAX_VALUE};

    private final Random random;
    private final ShiftHouse house = new ShiftHouse();
    private final Model model = new Model();
    private final int seed;
    private final int keys;
    private final int names;
    private int calls;

    private ModelRuns(int seed) {
        this.seed = seed;
        random = new Random(seed);
        keys = seed % 3 == 0 ? 60 : 8;
        names = seed % 2 == 0 ? 5 : 12;
    }

    public static void main(String[] args) {
        for (int seed = 0; seed < RUNS && !Due.isAnyWrong(); seed++) {
            ModelRuns run = new ModelRuns(seed);
            while (run.calls <= CALLS - CALLS_A_STEP && !Due.isAnyWrong()) {
                run.callSome();
            }
        }
        Due.end();
    }

    private void due(String call, long got, long want) {
        calls++;
        Due.is("run " + seed + ", call " + calls + ": " + call, got, want);
    }

    private int pick(int bound) {
        return random.nextInt(bound);
    }

    private int extreme() {
        return EXTREMES[pick(EXTREMES.length)];
    }

    /** Mostly a number below the bound, at times one that is not. */
    private int near(int bound) {
        return switch (pick(60)) {
            case 0 -> -1 - pick(3);
            case 1 -> bound + pick(3);
            case 2 -> extreme();
            default -> pick(bound);
        };
    }

    private int key() {
        return pick(30) == 0 ? extreme() : pick(keys) - keys / 2;
    }

    private int name() {
        return pick(40) == 0 ? near(64) : pick(names);
    }

    private int word() {
        return pick(4) == 0 ? random.nextInt() : WORDS[pick(WORDS.length)];
    }

    private void callSome() {
        int kind = pick(100);
        if (kind < 20) {
            callPlanOrDraft(kind);
        } else if (kind < 50) {
            callChange(kind);
        } else if (kind < 65) {
            callMigration(kind);
        } else if (kind < 75) {
            callCrash(kind);
        } else {
            ask(kind);
        }
    }

    private void callPlanOrDraft(int kind) {
        int i = near(8);
        int a = word();
        int b = word();
        if (kind < 9) {
            int what = near(4);
            int name = name();
            int other = what == 2 ? name() : near(5);
            due("plan " + what, house.plan(what, name, other, a, b), model.plan(what, name, other, a, b));
        } else if (kind < 10) {
            due("scrap", house.scrap(), model.scrap());
        } else if (kind < 15) {
            due("draft", house.draft(i, a, b), model.draft(i, a, b));
        } else {
            due("letters", house.letters(i, a, b), model.letters(i, a, b));
        }
    }

    private void callChange(int kind) {
        int key = key();
        boolean next = pick(2) == 0;
        if (kind < 44) {
            due("write " + key, house.write(key, next), model.write(key, next));
        } else {
            due("remove " + key, house.remove(key), model.remove(key));
        }
    }

    private void callMigration(int kind) {
        if (kind < 56) {
            int answer = model.begin();
            due("begin", house.begin(), answer);
            if (answer <= -10) {
                due("scrap", house.scrap(), model.scrap());
            }
        } else if (kind < 58) {
            due("finish", house.finish(), model.finish());
        } else if (kind < 59) {
            due("rollback", house.rollback(), model.rollback());
        } else {
            due("backfill", house.backfill(), model.backfill());
        }
    }

    private void callCrash(int kind) {
        if (kind < 68) {
            int n = pick(20) == 0 ? near(1001) : pick(14);
            due("crash " + n, house.crash(n), model.crash(n));
        } else {
            due("restart", house.restart(), model.restart());
        }
    }

    private void ask(int kind) {
        boolean flag = pick(2) == 0;
        if (kind < 85) {
            int key = key();
            due("read " + key, house.read(key, flag), model.read(key, flag));
            lookAtSeen();
        } else if (kind < 90) {
            int i = near(8);
            due("column " + i, house.column(i, flag), model.column(i, flag));
        } else if (kind < 94) {
            int k = key();
            due("next " + k, house.next(k, flag), model.next(k, flag));
            due("more " + k, house.more(k, flag), model.more(k, flag));
        } else {
            for (int what = -1; what <= 10; what++) {
                due("count " + what, house.count(what), model.count(what));
            }
            due("isDown", house.isDown() ? 1 : 0, model.isDown() ? 1 : 0);
        }
    }

    private void lookAtSeen() {
        due("seen", house.seen(), model.seen());
        for (int look = 0; look < 6; look++) {
            int i = near(Math.max(1, model.seen()));
            due("value " + i, house.value(i), model.value(i));
            int j = near((int) Math.max(1, Math.min(24, model.value(i))));
            due("letter " + i + ", " + j, house.letter(i, j), model.letter(i, j));
        }
    }
}
