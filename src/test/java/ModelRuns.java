import java.util.Random;

/** Runs of 512 calls, drawn from fixed seeds, on a house and on the plain model of the document. */
public final class ModelRuns {
    private static final int RUNS = 1000;
    private static final int CALLS = 512;
    private static final int[] WORDS = {0, 1, -1, 2, 70000, -70000, 0x2D313233, 0x30303937, 0x35, 0x2D, 0x80000000,
        0x7FFFFFFF, 0x41004200, 0x39393939};

    private final Random random;
    private final ShiftHouse house = new ShiftHouse();
    private final Model model = new Model();
    private final int keys;
    private final int names;

    private ModelRuns(int seed) {
        random = new Random(seed);
        keys = seed % 3 == 0 ? 60 : 8;
        names = seed % 2 == 0 ? 5 : 12;
    }

    public static void main(String[] args) {
        for (int seed = 0; seed < RUNS && !Due.isAnyWrong(); seed++) {
            ModelRuns run = new ModelRuns(seed);
            for (int i = 0; i < CALLS && !Due.isAnyWrong(); i++) {
                run.callOne("run " + seed + ", call " + i + ": ");
            }
        }
        Due.end();
    }

    private int pick(int bound) {
        return random.nextInt(bound);
    }

    /** Mostly a number below the bound, at times one that is not. */
    private int near(int bound) {
        return pick(30) == 0 ? (pick(2) == 0 ? -1 - pick(3) : bound + pick(3)) : pick(bound);
    }

    private int key() {
        return pick(keys) - keys / 2;
    }

    private int word() {
        return pick(4) == 0 ? random.nextInt() : WORDS[pick(WORDS.length)];
    }

    private void callOne(String at) {
        int kind = pick(100);
        if (kind < 20) {
            callPlanOrDraft(at, kind);
        } else if (kind < 50) {
            callChange(at, kind);
        } else if (kind < 65) {
            callMigration(at, kind);
        } else if (kind < 75) {
            callCrash(at, kind);
        } else {
            ask(at, kind);
        }
    }

    private void callPlanOrDraft(String at, int kind) {
        int i = near(8);
        int a = word();
        int b = word();
        if (kind < 9) {
            int what = near(4);
            int name = pick(40) == 0 ? near(64) : pick(names);
            int other = what == 2 ? (pick(40) == 0 ? near(64) : pick(names)) : near(5);
            Due.is(at + "plan " + what, house.plan(what, name, other, a, b), model.plan(what, name, other, a, b));
        } else if (kind < 10) {
            Due.is(at + "scrap", house.scrap(), model.scrap());
        } else if (kind < 15) {
            Due.is(at + "draft", house.draft(i, a, b), model.draft(i, a, b));
        } else {
            Due.is(at + "letters", house.letters(i, a, b), model.letters(i, a, b));
        }
    }

    private void callChange(String at, int kind) {
        int key = key();
        boolean next = pick(2) == 0;
        if (kind < 44) {
            Due.is(at + "write", house.write(key, next), model.write(key, next));
        } else {
            Due.is(at + "remove", house.remove(key), model.remove(key));
        }
    }

    private void callMigration(String at, int kind) {
        if (kind < 56) {
            int answer = model.begin();
            Due.is(at + "begin", house.begin(), answer);
            if (answer <= -10) {
                Due.is(at + "scrap", house.scrap(), model.scrap());
            }
        } else if (kind < 58) {
            Due.is(at + "finish", house.finish(), model.finish());
        } else if (kind < 59) {
            Due.is(at + "rollback", house.rollback(), model.rollback());
        } else {
            Due.is(at + "backfill", house.backfill(), model.backfill());
        }
    }

    private void callCrash(String at, int kind) {
        if (kind < 68) {
            int n = pick(20) == 0 ? near(1001) : pick(14);
            Due.is(at + "crash", house.crash(n), model.crash(n));
        } else {
            Due.is(at + "restart", house.restart(), model.restart());
        }
    }

    private void ask(String at, int kind) {
        int i = near(8);
        boolean flag = pick(2) == 0;
        if (kind < 80) {
            int key = key();
            Due.is(at + "read", house.read(key, flag), model.read(key, flag));
            seeAll(at);
        } else if (kind < 85) {
            Due.is(at + "column", house.column(i, flag), model.column(i, flag));
        } else if (kind < 90) {
            int k = key();
            Due.is(at + "next", house.next(k, flag), model.next(k, flag));
            Due.is(at + "more", house.more(k, flag), model.more(k, flag));
        } else {
            for (int what = -1; what <= 10; what++) {
                Due.is(at + "count " + what, house.count(what), model.count(what));
            }
            Due.is(at + "isDown", house.isDown(), model.isDown());
        }
    }

    private void seeAll(String at) {
        Due.is(at + "seen", house.seen(), model.seen());
        for (int i = -1; i <= 8; i++) {
            Due.is(at + "value " + i, house.value(i), model.value(i));
            for (int j = -1; j <= 24; j++) {
                Due.is(at + "letter " + i + ", " + j, house.letter(i, j), model.letter(i, j));
            }
        }
    }
}
