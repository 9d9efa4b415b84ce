/** Promises 18 to 20: crash, restart, isDown, and what each call had done when it crashed. */
public final class CrashRuns {
    public static void main(String[] args) {
        wrongInputs();
        laterCrashes();
        aThousandActions();
        stableCrashes();
        shadowedCrashes();
        runningWrites();
        runningRemoves();
        restartsThatCrash();
        crashesAcrossRestarts();
        migrationCrashes();
        runningBackfills();
        stableBackfills();
        Due.end();
    }

    private static void wrongInputs() {
        ShiftHouse x = new ShiftHouse();
        int[] wrong = {-1, 1001, Integer.MIN_VALUE, Integer.MAX_VALUE};
        x.crash(1);
        for (int n : wrong) {
            Due.is("crash(" + n + ")", x.crash(n), -1);
        }
        Due.is("the one told before counts still", x.write(1, false), -9);
        Due.is("crash(1000)", x.crash(1000), 1);
        Due.is("crash(0)", x.crash(0), 1);
        Due.is("restart", x.restart(), 1);
        Due.is("restart when up", x.restart(), -2);
    }

    private static void laterCrashes() {
        ShiftHouse x = new ShiftHouse();
        Due.is("crash(3)", x.crash(3), 1);
        Due.is("the first ACTION", x.write(1, false), 0);
        Due.is("refused: none", x.write(1, true), -2);
        Due.is("the second", x.write(1, false), 1);
        Due.is("none", x.read(1, false), 1);
        Due.is("up", x.isDown(), false);
        Due.is("the third", x.write(1, false), -9);
        Due.is("DOWN", x.isDown(), true);
        Due.is("restart", x.restart(), 1);
        Due.is("up again", x.isDown(), false);
        for (int i = 0; i < 10; i++) {
            Due.is("no further crash is told", x.write(1, false), 1);
        }
        x.crash(1);
        x.crash(2);
        Due.is("the later one counts", x.write(1, false), 1);
        Due.is("at its second ACTION", x.write(1, false), -9);
        x.restart();
        x.crash(1);
        x.crash(0);
        Due.is("none is told any more", x.write(1, false), 1);
    }

    private static void aThousandActions() {
        ShiftHouse x = Houses.runningWithKeys(1);
        x.crash(1000);
        for (int i = 1; i < 250; i++) {
            Due.is("write " + i + " of four ACTIONS", x.write(1, false), 1);
        }
        Due.is("the thousandth ACTION", x.write(1, false), -9);
        Due.is("three of that call were done", x.count(9), 3);
    }

    private static void stableCrashes() {
        ShiftHouse x = Houses.withKeys(1);
        x.draft(0, 0, 50);
        x.crash(1);
        Due.is("write", x.write(1, false), -9);
        Due.is("no ACTION is done", x.count(9), 0);
        Due.is("restart", x.restart(), 1);
        Due.is("restart without a NOTE has no ACTIONS", x.count(9), 0);
        x.read(1, false);
        Due.is("nothing is written", x.value(0), 1);
        x.crash(1);
        Due.is("write anew", x.write(2, false), -9);
        x.restart();
        Due.is("there is no such row", x.read(2, false), 0);
        x.crash(1);
        Due.is("remove", x.remove(1), -9);
        x.restart();
        Due.is("the row is there", x.read(1, false), 1);
        Due.is("with its value", x.value(0), 1);
    }

    private static void shadowedCrashes() {
        for (int n = 1; n <= 2; n++) {
            ShiftHouse x = Houses.runningWithKeys(1, 2);
            x.write(1, true);
            x.finish();
            int done = x.count(7);
            x.crash(n);
            Due.is("remove of a SHADOWED row at " + n, x.remove(1), -9);
            Due.is("its ACTIONS", x.count(9), n - 1);
            Due.is("all ACTIONS", x.count(7), done + n - 1);
            x.restart();
            Due.is("no ACTIONS of restart", x.count(7), done + n - 1);
            Due.is("the row is there", x.read(1, false), 1);
            Due.is("and SHADOWED", x.count(6), 1);
            x.crash(1);
            Due.is("write of a SHADOWED row", x.write(1, false), -9);
            x.restart();
            Due.is("it is SHADOWED still", x.count(6), 1);
            x.crash(1);
            Due.is("write of a row that is BEHIND", x.write(2, false), -9);
            x.restart();
            Due.is("it is BEHIND still", x.count(5), 2);
            Due.is("remove", x.remove(1), 1);
            Due.is("none is SHADOWED", x.count(6), 0);
        }
    }

    private static void runningWrites() {
        for (int n = 1; n <= 4; n++) {
            boolean isDone = n > 1;
            ShiftHouse x = Houses.runningWithKeys(1, 2);
            int done = x.count(7);
            x.draft(0, 0, 50);
            x.draft(1, 0, 51);
            x.crash(n);
            String call = "write that crashes at " + n;
            Due.is(call, x.write(1, true), -9);
            Due.is(call + ": ACTIONS", x.count(9), n - 1);
            Due.is(call + ": restart", x.restart(), 1);
            Due.is(call + ": ACTIONS of restart", x.count(9), isDone ? 3 : 0);
            Due.is(call + ": all ACTIONS", x.count(7), done + n - 1 + (isDone ? 3 : 0));
            x.read(1, true);
            Due.is(call + ": NEW form", x.value(1), isDone ? 51 : 7);
            x.read(1, false);
            Due.is(call + ": PRIOR form", x.value(0), isDone ? 50 : 1);
            Due.is(call + ": rows that LAG", x.count(5), isDone ? 1 : 2);
            x.crash(n);
            Due.is(call + ", in THE SCHEMA", x.write(3, false), -9);
            x.restart();
            Due.is(call + ", in THE SCHEMA: the row", x.read(3, true), isDone ? 1 : 0);
            Due.is(call + ", in THE SCHEMA: rows that LAG", x.count(5), isDone ? 1 : 2);
            x.finish();
            Due.is(call + ": SHADOWED rows behind finish", x.count(6), isDone ? 2 : 0);
        }
    }

    private static void runningRemoves() {
        for (int n = 1; n <= 4; n++) {
            boolean isDone = n > 1;
            ShiftHouse x = Houses.runningWithKeys(1, 2);
            x.crash(n);
            String call = "remove that crashes at " + n;
            Due.is(call, x.remove(1), -9);
            Due.is(call + ": ACTIONS", x.count(9), n - 1);
            Due.is(call + ": restart", x.restart(), 1);
            Due.is(call + ": ACTIONS of restart", x.count(9), isDone ? 3 : 0);
            Due.is(call + ": the row", x.read(1, false), isDone ? 0 : 1);
            Due.is(call + ": rows", x.count(4), isDone ? 1 : 2);
            Due.is(call + ": rows that LAG", x.count(5), isDone ? 1 : 2);
        }
    }

    private static void restartsThatCrash() {
        ShiftHouse x = Houses.runningWithKeys(1);
        x.draft(0, 0, 50);
        x.crash(3);
        Due.is("write", x.write(1, false), -9);
        Due.is("DOWN", x.isDown(), true);
        for (int n = 1; n <= 3; n++) {
            x.crash(n);
            Due.is("restart that crashes at " + n, x.restart(), -9);
            Due.is("its ACTIONS", x.count(9), n - 1);
            Due.is("DOWN still", x.isDown(), true);
            Due.is("write is refused", x.write(1, false), -8);
        }
        x.crash(4);
        Due.is("restart with three ACTIONS", x.restart(), 1);
        Due.is("three", x.count(9), 3);
        Due.is("up", x.isDown(), false);
        Due.is("the fourth ACTION is the next call's", x.write(2, false), -9);
        Due.is("restart without a NOTE", x.restart(), 1);
        Due.is("no ACTIONS", x.count(9), 0);
        x.read(1, false);
        Due.is("what was written is there", x.value(0), 50);
        Due.is("what was not is not", x.read(2, false), 0);
    }

    private static void crashesAcrossRestarts() {
        ShiftHouse x = Houses.withKeys(1);
        x.crash(1);
        x.write(1, false);
        x.crash(1);
        Due.is("restart without ACTIONS doesn't crash", x.restart(), 1);
        Due.is("the next write does", x.write(1, false), -9);
        Due.is("restart", x.restart(), 1);
        Due.is("restart again", x.restart(), -2);
        Due.is("refused: no ACTIONS", x.count(9), 0);
    }

    private static void migrationCrashes() {
        ShiftHouse x = Houses.withKeys(1, 2);
        x.plan(Houses.ADD, 9, Houses.INT, 0, 7);
        x.crash(1);
        Due.is("begin", x.begin(), -9);
        Due.is("DOWN", x.isDown(), true);
        x.restart();
        Due.is("none RUNS", x.count(1), 0);
        Due.is("no row LAGS", x.count(5), 0);
        Due.is("the PLAN stays", x.count(8), 1);
        Due.is("begin again", x.begin(), 2);
        x.write(1, true);
        x.crash(1);
        Due.is("finish", x.finish(), -9);
        x.restart();
        Due.is("it RUNS still", x.count(1), 1);
        Due.is("the version", x.count(0), 1);
        Due.is("rows that LAG", x.count(5), 1);
        Due.is("none is SHADOWED", x.count(6), 0);
        x.crash(1);
        Due.is("rollback", x.rollback(), -9);
        x.restart();
        Due.is("it RUNS on", x.count(1), 1);
        Due.is("a row in THE NEXT SCHEMA", x.read(2, true), 1);
        Due.is("with its default", x.value(1), 7);
        Due.is("rollback again", x.rollback(), 1);
    }

    private static void runningBackfills() {
        for (int n = 1; n <= 5; n++) {
            ShiftHouse x = Houses.runningWithKeys(1, 2, 3, 4, 5);
            x.crash(n);
            String call = "backfill that crashes at " + n;
            Due.is(call, x.backfill(), -9);
            Due.is(call + ": ACTIONS", x.count(9), n - 1);
            x.restart();
            Due.is(call + ": ACTIONS of restart", x.count(9), 0);
            Due.is(call + ": rows that LAG", x.count(5), 5 - (n - 1));
            x.remove(1);
            Due.is(call + ": the least key was first", x.count(5), n == 1 ? 4 : 5 - (n - 1));
        }
    }

    private static void stableBackfills() {
        int[] filled = {0, 1, 1, 2, 2};
        for (int n = 1; n <= 5; n++) {
            ShiftHouse x = Houses.runningWithKeys(1, 2);
            x.write(2, true);
            x.finish();
            x.crash(n);
            String call = "backfill of one BEHIND, one SHADOWED that crashes at " + n;
            Due.is(call, x.backfill(), n < 5 ? -9 : 2);
            Due.is(call + ": ACTIONS", x.count(9), n - 1);
            x.restart();
            Due.is(call + ": rows that LAG", x.count(5), 2 - filled[n - 1]);
            Due.is(call + ": SHADOWED rows", x.count(6), n <= 3 ? 1 : 0);
        }
    }
}
