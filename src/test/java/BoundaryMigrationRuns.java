/** Promises 14 to 17, sentence by sentence: begin, finish, rollback, backfill. */
public final class BoundaryMigrationRuns {
    private static final int INT = Houses.INT;
    private static final int ADD = Houses.ADD;
    private static final int DROP = Houses.DROP;

    public static void main(String[] args) {
        Part.promise(14)
            .holds("The PLAN is the migration that is RUNNING from now on", BoundaryMigrationRuns::planIsRunning)
            .holds("it is empty then.", BoundaryMigrationRuns::planIsEmptyThen)
            .holds("Answers how many columns THE NEXT SCHEMA has.", BoundaryMigrationRuns::nextColumns)
            .holds("-8", () -> Due.is("begin", down(planned()).begin(), -8))
            .holds("-2: one is RUNNING", BoundaryMigrationRuns::oneIsRunning)
            .holds("or the PLAN is empty", BoundaryMigrationRuns::planIsEmpty)
            .holds("or a row is SHADOWED", BoundaryMigrationRuns::rowIsShadowed)
            .holds("-4: the version is 30", BoundaryMigrationRuns::versionIs30)
            .holds("-10 less the number (from 0) of the first WRONG step", BoundaryMigrationRuns::firstWrongStep)
            .holds("-9 (the PLAN stays).", BoundaryMigrationRuns::beginCrashes)
            .end();
        Part.promise(15)
            .holds("The migration is finished.", BoundaryMigrationRuns::isFinished)
            .holds("Answers the version.", BoundaryMigrationRuns::finishAnswers)
            .holds("-8", () -> Due.is("finish", down(Houses.runningWithKeys(1)).finish(), -8))
            .holds("-2: none is RUNNING", BoundaryMigrationRuns::nothingToFinish)
            .holds("-9", BoundaryMigrationRuns::finishCrashes)
            .end();
        Part.promise(16)
            .holds("The migration is rolled back.", BoundaryMigrationRuns::isRolledBack)
            .holds("Answers the version.", BoundaryMigrationRuns::rollbackAnswers)
            .holds("-8", () -> Due.is("rollback", down(Houses.runningWithKeys(1)).rollback(), -8))
            .holds("-2: none is RUNNING", BoundaryMigrationRuns::nothingToRollBack)
            .holds("-9", BoundaryMigrationRuns::rollbackCrashes)
            .end();
        Part.promise(17)
            .holds("Those four rows that LAG whose keys are the least", BoundaryMigrationRuns::fourLeast)
            .holds("(all, if there are fewer)", BoundaryMigrationRuns::fewerThanFour)
            .holds("are filled in, the least key first.", BoundaryMigrationRuns::leastFirst)
            .holds("Answers how many that were.", BoundaryMigrationRuns::howManyFilled)
            .holds("-8", () -> Due.is("backfill", down(Houses.runningWithKeys(1)).backfill(), -8))
            .holds("-9", BoundaryMigrationRuns::backfillCrashes)
            .end();
        Due.end();
    }

    private static ShiftHouse down(ShiftHouse x) {
        x.crash(1);
        x.write(1, false);
        return x;
    }

    private static ShiftHouse planned() {
        ShiftHouse x = Houses.withKeys(1);
        x.plan(ADD, 9, INT, 0, 7);
        return x;
    }

    /** So many migrations, each of one step, are finished; a row stays BEHIND. */
    private static ShiftHouse inVersion(int version) {
        ShiftHouse x = new ShiftHouse();
        x.write(1, false);
        for (int v = 0; v < version; v++) {
            x.plan(v % 2 == 0 ? ADD : DROP, 1, INT, 0, v);
            Due.is("begin in version " + v, x.begin(), 1 - v % 2);
            Due.is("finish in version " + v, x.finish(), v + 1);
        }
        return x;
    }

    // ---- begin

    private static void planIsRunning() {
        ShiftHouse x = planned();
        x.begin();
        Due.is("RUNNING", x.count(1), 1);
        Due.is("its column", x.column(1, true), 72 + INT);
        Due.isRow("its rows", x, 1, true, 1, 7);
        Due.is("a write in it", x.write(1, true), 1);
    }

    private static void planIsEmptyThen() {
        ShiftHouse x = planned();
        x.begin();
        Due.is("steps", x.count(8), 0);
        Due.is("scrap", x.scrap(), 0);
        x.rollback();
        Due.is("behind rollback too", x.begin(), -2);
        ShiftHouse y = planned();
        y.begin();
        y.finish();
        Due.is("behind finish too", y.begin(), -2);
    }

    private static void nextColumns() {
        ShiftHouse x = new ShiftHouse();
        for (int name = 0; name < 6; name++) {
            x.plan(ADD, name, INT, 0, 0);
        }
        Due.is("six", x.begin(), 6);
        x.finish();
        x.plan(ADD, 6, INT, 0, 0);
        x.plan(ADD, 7, INT, 0, 0);
        Due.is("eight", x.begin(), 8);
        x.rollback();
        for (int name = 0; name < 6; name++) {
            x.plan(DROP, name, 0, 0, 0);
        }
        Due.is("none", x.begin(), 0);
        Due.is("it RUNS", x.count(1), 1);
    }

    private static void oneIsRunning() {
        ShiftHouse x = planned();
        x.begin();
        x.plan(ADD, 10, INT, 0, 0);
        Due.is("begin", x.begin(), -2);
        Due.is("the PLAN stays", x.count(8), 1);
        x.rollback();
        Due.is("none is", x.begin(), 2);
        x.plan(ADD, 11, INT, 0, 0);
        x.finish();
        Due.is("finished", x.begin(), 3);
    }

    private static void planIsEmpty() {
        ShiftHouse x = Houses.withKeys(1);
        Due.is("no step yet", x.begin(), -2);
        x.plan(ADD, 9, INT, 0, 0);
        x.scrap();
        Due.is("scrapped", x.begin(), -2);
        Due.is("no ACTION", x.count(9), 0);
        x.plan(ADD, 9, INT, 0, 0);
        Due.is("one step", x.begin(), 2);
    }

    private static void rowIsShadowed() {
        ShiftHouse x = Houses.runningWithKeys(1, 2);
        x.write(2, true);
        x.finish();
        x.plan(ADD, 10, INT, 0, 0);
        Due.is("one of two", x.begin(), -2);
        Due.is("the PLAN stays", x.count(8), 1);
        x.write(2, false);
        Due.is("a write doesn't help", x.begin(), -2);
        x.remove(1);
        Due.is("nor does another row", x.begin(), -2);
        x.remove(2);
        Due.is("it is gone", x.begin(), 3);
        ShiftHouse y = Houses.runningWithKeys(1);
        y.finish();
        y.plan(ADD, 10, INT, 0, 0);
        Due.is("a row that is BEHIND", y.begin(), 3);
    }

    private static void versionIs30() {
        ShiftHouse x = inVersion(29);
        x.plan(DROP, 60, 0, 0, 0);
        Due.is("a WRONG step in 29", x.begin(), -10);
        x.scrap();
        x.plan(ADD, 60, INT, 0, 0);
        Due.is("begin in 29", x.begin(), 2);
        Due.is("rollback to 29", x.rollback(), 29);
        x.plan(ADD, 60, INT, 0, 0);
        Due.is("begin in 29 again", x.begin(), 2);
        Due.is("finish", x.finish(), 30);
        x.plan(ADD, 61, INT, 0, 0);
        Due.is("begin in 30", x.begin(), -4);
        Due.is("the PLAN stays", x.count(8), 1);
        Due.is("no ACTION", x.count(9), 0);
        Due.isRow("the row is there", x, 1, false, 28, 0);
        Due.is("rows are written still", x.write(2, false), 0);
    }

    private static void firstWrongStep() {
        for (int number = 0; number < 6; number++) {
            ShiftHouse x = Houses.withKeys(1);
            for (int s = 0; s < 6; s++) {
                x.plan(s < number ? ADD : DROP, s < number ? 10 + s : 60, INT, 0, 0);
            }
            Due.is("step " + number, x.begin(), -10 - number);
            Due.is("the PLAN stays", x.count(8), 6);
            Due.is("none RUNS", x.count(1), 0);
            Due.is("THE SCHEMA is as before", x.count(2), 1);
            Due.isRow("the row too", x, 1, false, 1);
        }
    }

    private static void beginCrashes() {
        ShiftHouse x = planned();
        x.crash(1);
        Due.is("begin", x.begin(), -9);
        Due.is("the PLAN stays", x.count(8), 1);
        Due.is("DOWN", x.isDown(), true);
        x.restart();
        Due.is("none RUNS", x.count(1), 0);
        Due.is("no row LAGS", x.count(5), 0);
        Due.is("the PLAN begins", x.begin(), 2);
        Due.isRow("with its step", x, 1, true, 1, 7);
    }

    // ---- finish

    private static void isFinished() {
        ShiftHouse x = Houses.runningWithKeys(1);
        x.finish();
        Due.is("RUNNING", x.count(1), 0);
        Due.is("THE SCHEMA", x.count(2), 2);
        Due.is("the next one", x.count(3), 0);
        Due.isRow("the NEW form", x, 1, false, 1, 7);
        ShiftHouse none = new ShiftHouse();
        none.plan(ADD, 1, INT, 0, 0);
        none.begin();
        Due.is("without rows", none.finish(), 1);
        Due.is("no row LAGS", none.count(5), 0);
    }

    private static void finishAnswers() {
        ShiftHouse x = inVersion(30);
        Due.is("the last version", x.count(0), 30);
    }

    private static void nothingToFinish() {
        Due.is("at first", new ShiftHouse().finish(), -2);
        Due.is("a PLAN alone", planned().finish(), -2);
        ShiftHouse x = Houses.runningWithKeys(1);
        x.finish();
        Due.is("twice", x.finish(), -2);
        Due.is("the version", x.count(0), 2);
        x = Houses.runningWithKeys(1);
        x.rollback();
        Due.is("rolled back", x.finish(), -2);
    }

    private static void finishCrashes() {
        ShiftHouse x = Houses.runningWithKeys(1, 2);
        x.write(2, true);
        x.crash(1);
        Due.is("finish", x.finish(), -9);
        x.restart();
        Due.is("it RUNS still", x.count(1), 1);
        Due.is("the version", x.count(0), 1);
        Due.is("rows that LAG", x.count(5), 1);
        Due.is("SHADOWED rows", x.count(6), 0);
        Due.is("finish again", x.finish(), 2);
        Due.is("SHADOWED then", x.count(6), 1);
    }

    // ---- rollback

    private static void isRolledBack() {
        ShiftHouse x = Houses.runningWithKeys(1);
        x.rollback();
        Due.is("RUNNING", x.count(1), 0);
        Due.is("THE SCHEMA", x.count(2), 1);
        Due.is("the next one", x.count(3), 0);
        Due.isRow("the PRIOR form", x, 1, false, 1);
        Due.is("no next form", x.read(1, true), -2);
        Due.is("the PLAN is not there again", x.count(8), 0);
    }

    private static void rollbackAnswers() {
        ShiftHouse x = new ShiftHouse();
        x.plan(ADD, 1, INT, 0, 0);
        x.begin();
        Due.is("in version 0", x.rollback(), 0);
        ShiftHouse y = inVersion(29);
        y.plan(ADD, 9, INT, 0, 0);
        y.begin();
        Due.is("in version 29", y.rollback(), 29);
        Due.is("count", y.count(0), 29);
    }

    private static void nothingToRollBack() {
        Due.is("at first", new ShiftHouse().rollback(), -2);
        Due.is("a PLAN alone", planned().rollback(), -2);
        ShiftHouse x = Houses.runningWithKeys(1);
        x.rollback();
        Due.is("twice", x.rollback(), -2);
        x = Houses.runningWithKeys(1);
        x.finish();
        Due.is("finished", x.rollback(), -2);
        Due.is("the version", x.count(0), 2);
    }

    private static void rollbackCrashes() {
        ShiftHouse x = Houses.runningWithKeys(1);
        x.draft(0, 0, 30);
        x.draft(1, 0, 31);
        x.write(1, true);
        x.crash(1);
        Due.is("rollback", x.rollback(), -9);
        x.restart();
        Due.is("it RUNS still", x.count(1), 1);
        Due.isRow("the NEW form", x, 1, true, 30, 31);
        Due.is("rollback again", x.rollback(), 1);
        Due.isRow("the PRIOR form", x, 1, false, 30);
    }

    // ---- backfill

    private static void lagging(String when, ShiftHouse x, int... keys) {
        Due.is(when + ": rows that LAG", x.count(5), keys.length);
        for (int i = 0; i < keys.length; i++) {
            x.remove(keys[i]);
            Due.is(when + ": one of them is " + keys[i], x.count(5), keys.length - i - 1);
        }
    }

    private static void fourLeast() {
        ShiftHouse x = Houses.runningWithKeys(5, Integer.MAX_VALUE, -1, 0, Integer.MIN_VALUE, 3, 9);
        x.write(0, false);
        Due.is("backfill", x.backfill(), 4);
        lagging("all but the least, -1, 3, 5", x, Integer.MAX_VALUE, 9);
        ShiftHouse y = Houses.runningWithKeys(1, 2, 3, 4, 5, 6);
        y.write(1, true);
        y.write(4, true);
        y.finish();
        Due.is("BEHIND and SHADOWED alike", y.backfill(), 4);
        Due.is("none is SHADOWED", y.count(6), 0);
        lagging("5 and 6 are left", y, 5, 6);
    }

    private static void fewerThanFour() {
        Due.is("none", Houses.withKeys(1).backfill(), 0);
        int[][] keys = {{1}, {1, 2}, {1, 2, 3}, {1, 2, 3, 4}};
        for (int[] some : keys) {
            ShiftHouse x = Houses.runningWithKeys(some);
            Due.is("all", x.backfill(), some.length);
            Due.is("none is left", x.count(5), 0);
        }
        ShiftHouse y = Houses.runningWithKeys(1, 2, 3, 4, 5);
        Due.is("four of five", y.backfill(), 4);
        Due.is("one is left", y.backfill(), 1);
        Due.is("none is left", y.backfill(), 0);
    }

    private static void leastFirst() {
        int[] keys = {8, -2, 4, 0};
        int[] order = {-2, 0, 4, 8};
        for (int n = 1; n <= 4; n++) {
            ShiftHouse x = Houses.runningWithKeys(keys);
            x.crash(n);
            x.backfill();
            x.restart();
            lagging("crash " + n, x, java.util.Arrays.copyOfRange(order, n - 1, 4));
        }
    }

    private static void howManyFilled() {
        ShiftHouse x = new ShiftHouse();
        for (int key = 0; key < 40; key++) {
            x.write(key, false);
        }
        x.plan(ADD, 1, INT, 0, 0);
        x.begin();
        for (int call = 0; call < 10; call++) {
            Due.is("RUNNING, call " + call, x.backfill(), 4);
        }
        Due.is("RUNNING, no more", x.backfill(), 0);
        x.finish();
        for (int call = 0; call < 10; call++) {
            Due.is("STABLE, call " + call, x.backfill(), 4);
        }
        Due.is("STABLE, no more", x.backfill(), 0);
    }

    private static void backfillCrashes() {
        ShiftHouse x = Houses.runningWithKeys(1, 2, 3);
        x.crash(4);
        Due.is("the HEAD is not done", x.backfill(), -9);
        x.restart();
        Due.is("all three are filled in", x.count(5), 0);
        x.finish();
        x.crash(7);
        Due.is("the HEAD is not done, STABLE", x.backfill(), -9);
        x.restart();
        Due.is("all three are filled in, STABLE", x.count(5), 0);
        Due.is("no more", x.backfill(), 0);
    }
}
