/** Promise 17, which rows LAG, and the ACTIONS of each call. */
public final class LagRuns {
    public static void main(String[] args) {
        runningRowsLag();
        finishedRowsLag();
        rolledBackRowsLag();
        behindRowsThatAreWrittenSince();
        stableWrites();
        stableRemoves();
        fourLeastKeys();
        mixedBackfill();
        actionsOfMigrations();
        Due.end();
    }

    private static void lags(String when, ShiftHouse x, int lagging, int shadowed) {
        Due.is(when + ": rows that LAG", x.count(5), lagging);
        Due.is(when + ": SHADOWED rows", x.count(6), shadowed);
    }

    private static void runningRowsLag() {
        ShiftHouse x = Houses.withKeys(1, 2, 3, 4);
        lags("STABLE", x, 0, 0);
        x.plan(Houses.ADD, 9, Houses.INT, 0, 0);
        x.begin();
        lags("begin", x, 4, 0);
        x.write(1, false);
        lags("written in THE SCHEMA", x, 3, 0);
        x.write(2, true);
        lags("written in THE NEXT SCHEMA", x, 2, 0);
        x.write(5, true);
        lags("written anew", x, 2, 0);
        x.remove(3);
        lags("removed", x, 1, 0);
        x.write(3, false);
        lags("removed and written", x, 1, 0);
        Due.is("backfill", x.backfill(), 1);
        lags("filled in", x, 0, 0);
        Due.is("backfill of none", x.backfill(), 0);
    }

    private static void finishedRowsLag() {
        ShiftHouse x = Houses.runningWithKeys(1, 2, 3, 4);
        x.write(1, true);
        x.write(6, false);
        x.finish();
        lags("finish", x, 5, 2);
        x.plan(Houses.ADD, 10, Houses.INT, 0, 0);
        Due.is("begin while SHADOWED", x.begin(), -2);
        x.remove(1);
        Due.is("begin while another one is SHADOWED", x.begin(), -2);
        x.remove(6);
        lags("SHADOWED ones removed", x, 3, 0);
        Due.is("begin while BEHIND", x.begin(), 3);
        x.finish();
        lags("finish again", x, 3, 0);
        x.read(2, false);
        Due.is("a row that is BEHIND by two is brought up", x.value(1), 7);
    }

    private static void rolledBackRowsLag() {
        ShiftHouse x = Houses.runningWithKeys(1, 2, 3, 4, 5);
        x.rollback();
        lags("rollback of rows that were not BEHIND", x, 0, 0);
        x.plan(Houses.ADD, 9, Houses.INT, 0, 0);
        x.begin();
        x.backfill();
        x.write(6, true);
        x.rollback();
        lags("nor are those filled in or new", x, 0, 0);
    }

    private static void behindRowsThatAreWrittenSince() {
        ShiftHouse x = Houses.runningWithKeys(1, 2, 3, 4, 5, 6);
        x.finish();
        lags("all are BEHIND", x, 6, 0);
        x.write(6, false);
        lags("one is written", x, 5, 0);
        x.plan(Houses.ADD, 10, Houses.INT, 0, 0);
        x.begin();
        lags("all LAG behind begin", x, 6, 0);
        x.backfill();
        lags("four are filled in", x, 2, 0);
        x.write(1, false);
        x.write(2, true);
        x.remove(3);
        x.write(3, true);
        x.rollback();
        lags("4 and 5 are BEHIND again", x, 2, 0);
        x.remove(4);
        lags("4 was one", x, 1, 0);
        x.remove(5);
        lags("5 was one", x, 0, 0);
        x.plan(Houses.ADD, 10, Houses.INT, 0, 0);
        x.begin();
        x.rollback();
        lags("an earlier migration's rows don't LAG again", x, 0, 0);
    }

    private static void stableWrites() {
        ShiftHouse x = Houses.runningWithKeys(1, 2);
        x.write(2, true);
        x.finish();
        lags("one BEHIND, one SHADOWED", x, 2, 1);
        x.write(2, false);
        Due.is("write of a SHADOWED row: ACTIONS", x.count(9), 1);
        lags("it stays SHADOWED", x, 2, 1);
        x.write(1, false);
        Due.is("write of a row that is BEHIND: ACTIONS", x.count(9), 1);
        lags("it doesn't LAG then", x, 1, 1);
        x.write(3, false);
        Due.is("write of a new row: ACTIONS", x.count(9), 1);
        lags("it doesn't LAG", x, 1, 1);
    }

    private static void stableRemoves() {
        ShiftHouse x = Houses.runningWithKeys(1, 2);
        x.write(2, true);
        x.finish();
        x.write(3, false);
        x.remove(1);
        Due.is("remove of a row that is BEHIND: ACTIONS", x.count(9), 1);
        x.remove(3);
        Due.is("remove of another: ACTIONS", x.count(9), 1);
        x.remove(2);
        Due.is("remove of a SHADOWED row: ACTIONS", x.count(9), 2);
        x.write(2, false);
        lags("a row written where a SHADOWED one was", x, 0, 0);
        x.remove(2);
        Due.is("its ACTIONS", x.count(9), 1);
    }

    private static void fourLeastKeys() {
        ShiftHouse x = Houses.runningWithKeys(50, -7, 30, 10, 20, 40);
        x.write(10, true);
        Due.is("backfill", x.backfill(), 4);
        Due.is("RUNNING: 1 for each row and the HEAD", x.count(9), 5);
        lags("one is left", x, 1, 0);
        x.remove(50);
        lags("the greatest key was left", x, 0, 0);
        Due.is("backfill of none", x.backfill(), 0);
        Due.is("no ACTIONS", x.count(9), 0);
        x.finish();
        lags("all are SHADOWED", x, 5, 5);
        Due.is("backfill of four", x.backfill(), 4);
        Due.is("STABLE: 2 for each SHADOWED row and the HEAD", x.count(9), 9);
        x.remove(40);
        Due.is("40 was left SHADOWED", x.count(9), 2);
        lags("none is left", x, 0, 0);
    }

    private static void mixedBackfill() {
        ShiftHouse x = Houses.runningWithKeys(1, 2, 3, 4, 5);
        x.write(2, true);
        x.write(5, false);
        x.finish();
        lags("three BEHIND, two SHADOWED", x, 5, 2);
        Due.is("backfill", x.backfill(), 4);
        Due.is("1 for each that is BEHIND, 2 for SHADOWED, the HEAD", x.count(9), 6);
        lags("a SHADOWED one is left", x, 1, 1);
        Due.is("backfill of it", x.backfill(), 1);
        Due.is("its ACTIONS", x.count(9), 3);
        x.read(2, false);
        Due.is("a row that was filled in is as before", x.value(0), 5);
        Due.is("with its own value", x.value(1), 0);
        x.read(1, false);
        Due.is("a row that was BEHIND has the default", x.value(1), 7);
        Due.is("backfill of no rows", new ShiftHouse().backfill(), 0);
    }

    private static void actionsOfMigrations() {
        ShiftHouse x = Houses.withKeys(1);
        x.plan(Houses.ADD, 9, Houses.INT, 0, 0);
        x.begin();
        Due.is("begin", x.count(9), 1);
        x.write(1, false);
        Due.is("write in THE SCHEMA", x.count(9), 4);
        x.write(2, true);
        Due.is("write in THE NEXT SCHEMA", x.count(9), 4);
        x.remove(2);
        Due.is("remove", x.count(9), 4);
        x.rollback();
        Due.is("rollback", x.count(9), 1);
        x.plan(Houses.ADD, 9, Houses.INT, 0, 0);
        x.begin();
        x.finish();
        Due.is("finish", x.count(9), 1);
        Due.is("in all, with begin, finish and write at first", x.count(7), 3 + 1 + 4 + 4 + 4 + 1 + 1 + 1);
    }
}
