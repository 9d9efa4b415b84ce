/** Promises 18 to 22, sentence by sentence: crash, restart, isDown, count, column. */
public final class BoundaryQuestionRuns {
    private static final int INT = Houses.INT;
    private static final int TEXT = Houses.TEXT;
    private static final int ADD = Houses.ADD;
    private static final int LEAST = Integer.MIN_VALUE;
    private static final int GREATEST = Integer.MAX_VALUE;

    public static void main(String[] args) {
        Part.promise(18)
            .holds("The n-th ACTION from now on is not done", BoundaryQuestionRuns::nthAction)
            .holds("(instead of one that was told before)", BoundaryQuestionRuns::insteadOfOneBefore)
            .holds("0: none is told.", BoundaryQuestionRuns::noneIsTold)
            .holds("Answers 1.", BoundaryQuestionRuns::crashAnswers)
            .holds("-1: n is not 0 .. 1000.", BoundaryQuestionRuns::noSuchCrash)
            .end();
        Part.promise(19)
            .holds("The house goes up.", BoundaryQuestionRuns::goesUp)
            .holds("Answers 1.", () -> Due.is("restart", down(Houses.withKeys(1)).restart(), 1))
            .holds("-2: it is not DOWN", BoundaryQuestionRuns::notDown)
            .holds("-9: it is DOWN still.", BoundaryQuestionRuns::downStill)
            .end();
        Part.promise(20)
            .holds("Whether it is DOWN.", BoundaryQuestionRuns::whetherDown)
            .end();
        Part.promise(21)
            .holds("what = 0 the version", BoundaryQuestionRuns::countVersion)
            .holds("1 1 if a migration is RUNNING, else 0", BoundaryQuestionRuns::countRunning)
            .holds("2 columns of THE SCHEMA", BoundaryQuestionRuns::countColumns)
            .holds("3 of THE NEXT SCHEMA (0 if none is RUNNING)", BoundaryQuestionRuns::countNextColumns)
            .holds("4 rows", BoundaryQuestionRuns::countRows)
            .holds("5 rows that LAG", BoundaryQuestionRuns::countLagging)
            .holds("6 rows that are SHADOWED", BoundaryQuestionRuns::countShadowed)
            .holds("7 ACTIONS done so far (also when DOWN)", BoundaryQuestionRuns::countActions)
            .holds("8 steps of the PLAN (also when DOWN)", BoundaryQuestionRuns::countSteps)
            .holds("9 ACTIONS done in the latest call of write, remove, begin, finish, rollback, backfill, restart"
                + " (also when DOWN", BoundaryQuestionRuns::countLatest)
            .holds("0 before one, or when it was refused).", BoundaryQuestionRuns::countLatestOfNone)
            .holds("-1: no such what", BoundaryQuestionRuns::noSuchCount)
            .holds("-8 (but 7, 8, 9).", BoundaryQuestionRuns::countsWhenDown)
            .end();
        Part.promise(22)
            .holds("Column i of THE SCHEMA, or (next) of THE NEXT SCHEMA", BoundaryQuestionRuns::columnsOfBoth)
            .holds("8 times its NAME, and its TYPE.", BoundaryQuestionRuns::nameAndType)
            .holds("-8", BoundaryQuestionRuns::columnWhenDown)
            .holds("-2: next, and no migration is RUNNING", BoundaryQuestionRuns::columnOfNoMigration)
            .holds("-1: there is no such column.", BoundaryQuestionRuns::noSuchColumn)
            .end();
        Due.end();
    }

    private static ShiftHouse down(ShiftHouse x) {
        x.crash(1);
        x.write(1, false);
        return x;
    }

    // ---- crash

    private static void nthAction() {
        ShiftHouse x = Houses.withKeys(1);
        x.crash(1);
        Due.is("the first", x.write(1, false), -9);
        x.restart();
        x.crash(3);
        Due.is("one of three", x.write(1, false), 1);
        Due.is("two of three", x.write(1, false), 1);
        Due.is("three of three", x.write(1, false), -9);
        ShiftHouse y = Houses.runningWithKeys(1);
        y.crash(1000);
        for (int i = 0; i < 249; i++) {
            y.write(1, false);
        }
        Due.is("996 are done", y.isDown(), false);
        Due.is("the thousandth", y.write(1, false), -9);
        Due.is("999 are done", y.count(7), 4 + 999);
    }

    private static void insteadOfOneBefore() {
        ShiftHouse x = Houses.withKeys(1);
        x.crash(1);
        x.crash(3);
        Due.is("not the first", x.write(1, false), 1);
        x.crash(3);
        Due.is("from now on", x.write(1, false), 1);
        Due.is("the third of before", x.write(1, false), 1);
        Due.is("the third from then on", x.write(1, false), -9);
        x.crash(1000);
        x.crash(1);
        x.restart();
        Due.is("told when DOWN", x.write(1, false), -9);
    }

    private static void noneIsTold() {
        ShiftHouse x = Houses.withKeys(1);
        x.crash(1);
        Due.is("crash(0)", x.crash(0), 1);
        for (int i = 0; i < 9; i++) {
            Due.is("write", x.write(1, false), 1);
        }
        Due.is("crash(0) with none told", x.crash(0), 1);
        Due.is("write again", x.write(1, false), 1);
    }

    private static void crashAnswers() {
        ShiftHouse x = new ShiftHouse();
        int[] right = {0, 1, 2, 999, 1000, 0};
        for (int n : right) {
            Due.is("crash(" + n + ")", x.crash(n), 1);
        }
        down(x);
        for (int n : right) {
            Due.is("crash(" + n + ") when DOWN", x.crash(n), 1);
        }
    }

    private static void noSuchCrash() {
        int[] wrong = {-1, 1001, LEAST, GREATEST};
        for (int n : wrong) {
            ShiftHouse x = Houses.withKeys(1);
            x.crash(2);
            Due.is("crash(" + n + ")", x.crash(n), -1);
            Due.is("the one before is told still", x.write(1, false), 1);
            Due.is("at its ACTION", x.write(1, false), -9);
            Due.is("crash(" + n + ") when DOWN", x.crash(n), -1);
        }
    }

    // ---- restart, isDown

    private static void goesUp() {
        ShiftHouse x = down(Houses.withKeys(1));
        x.restart();
        Due.is("DOWN", x.isDown(), false);
        Due.isRow("its row", x, 1, false, 1);
        Due.is("write", x.write(1, false), 1);
        Due.is("count", x.count(4), 1);
    }

    private static void notDown() {
        Due.is("at first", new ShiftHouse().restart(), -2);
        ShiftHouse x = down(Houses.withKeys(1));
        x.restart();
        Due.is("twice", x.restart(), -2);
        x.crash(1);
        Due.is("a crash is told, but not come", x.restart(), -2);
        Due.is("it comes", x.write(1, false), -9);
    }

    private static void downStill() {
        ShiftHouse x = Houses.runningWithKeys(1);
        x.draft(0, 0, 40);
        x.crash(2);
        x.write(1, false);
        for (int n = 1; n <= 3; n++) {
            x.crash(n);
            Due.is("restart, crash " + n, x.restart(), -9);
            Due.is("DOWN", x.isDown(), true);
            Due.is("read", x.read(1, false), -8);
            Due.is("ACTIONS", x.count(9), n - 1);
        }
        Due.is("restart", x.restart(), 1);
        Due.isRow("what was written", x, 1, false, 40);
    }

    private static void whetherDown() {
        ShiftHouse x = Houses.withKeys(1);
        Due.is("at first", x.isDown(), false);
        x.crash(2);
        Due.is("told", x.isDown(), false);
        x.write(1, false);
        Due.is("not yet", x.isDown(), false);
        x.write(1, false);
        Due.is("then", x.isDown(), true);
        Due.is("asked twice", x.isDown(), true);
        x.restart();
        Due.is("up", x.isDown(), false);
    }

    // ---- count

    private static void countVersion() {
        ShiftHouse x = new ShiftHouse();
        for (int version = 0; version < 30; version++) {
            Due.is("version", x.count(0), version);
            x.plan(Houses.RENAME, 1 + version % 2, 2 - version % 2, 0, 0);
            if (version == 0) {
                x.scrap();
                x.plan(ADD, 2, INT, 0, 0);
            }
            x.begin();
            Due.is("while RUNNING", x.count(0), version);
            x.finish();
        }
        Due.is("the last one", x.count(0), 30);
    }

    private static void countRunning() {
        ShiftHouse x = Houses.withKeys(1);
        x.plan(ADD, 9, INT, 0, 0);
        Due.is("planned", x.count(1), 0);
        x.begin();
        Due.is("begun", x.count(1), 1);
        x.rollback();
        Due.is("rolled back", x.count(1), 0);
        x.plan(ADD, 9, INT, 0, 0);
        x.begin();
        x.finish();
        Due.is("finished", x.count(1), 0);
    }

    private static void countColumns() {
        Due.is("none", new ShiftHouse().count(2), 0);
        Due.is("eight", Houses.withColumns(0, 0, 0, 0, 0, 0, 0, 0).count(2), 8);
        ShiftHouse x = Houses.runningWithKeys(1);
        Due.is("RUNNING", x.count(2), 1);
        x.finish();
        Due.is("finished", x.count(2), 2);
    }

    private static void countNextColumns() {
        ShiftHouse x = Houses.withKeys(1);
        Due.is("STABLE", x.count(3), 0);
        x.plan(ADD, 9, INT, 0, 0);
        x.plan(Houses.DROP, 60, 0, 0, 0);
        x.begin();
        Due.is("a refused begin", x.count(3), 0);
        x.scrap();
        x.plan(Houses.DROP, 0, 0, 0, 0);
        x.begin();
        Due.is("RUNNING to none", x.count(3), 0);
        x.rollback();
        x.plan(ADD, 9, INT, 0, 0);
        x.begin();
        Due.is("RUNNING", x.count(3), 2);
        x.finish();
        Due.is("finished", x.count(3), 0);
    }

    private static void countRows() {
        ShiftHouse x = new ShiftHouse();
        for (int i = 0; i < 40; i++) {
            Due.is("rows", x.count(4), i);
            x.write(-i, false);
        }
        x.write(1, false);
        Due.is("forty", x.count(4), 40);
        x.remove(0);
        Due.is("one less", x.count(4), 39);
    }

    private static void countLagging() {
        ShiftHouse x = new ShiftHouse();
        for (int i = 0; i < 40; i++) {
            x.write(i, false);
        }
        Due.is("none", x.count(5), 0);
        x.plan(ADD, 1, INT, 0, 0);
        x.begin();
        Due.is("all", x.count(5), 40);
        x.write(39, true);
        x.finish();
        Due.is("BEHIND and SHADOWED ones", x.count(5), 40);
    }

    private static void countShadowed() {
        ShiftHouse x = new ShiftHouse();
        x.plan(ADD, 1, INT, 0, 0);
        x.begin();
        for (int i = 0; i < 40; i++) {
            x.write(i, true);
        }
        Due.is("none while RUNNING", x.count(6), 0);
        x.finish();
        Due.is("all", x.count(6), 40);
        x.backfill();
        Due.is("filled in", x.count(6), 36);
    }

    private static void countActions() {
        ShiftHouse x = new ShiftHouse();
        Due.is("at first", x.count(7), 0);
        x.write(1, false);
        Due.is("one", x.count(7), 1);
        x.write(1, true);
        Due.is("none of a refused call", x.count(7), 1);
        x.plan(ADD, 1, INT, 0, 0);
        x.begin();
        x.crash(3);
        x.write(1, true);
        Due.is("when DOWN, the one not done is none", x.count(7), 4);
        x.crash(2);
        x.restart();
        Due.is("a restart's own", x.count(7), 5);
        x.restart();
        Due.is("three more", x.count(7), 8);
    }

    private static void countSteps() {
        ShiftHouse x = Houses.withKeys(1);
        for (int i = 0; i < 6; i++) {
            Due.is("steps", x.count(8), i);
            x.plan(ADD, 10 + i, INT, 0, 0);
        }
        x.plan(ADD, 20, INT, 0, 0);
        Due.is("six", x.count(8), 6);
        down(x);
        Due.is("when DOWN", x.count(8), 6);
        x.scrap();
        Due.is("scrapped when DOWN", x.count(8), 0);
    }

    private static void countLatest() {
        ShiftHouse x = Houses.runningWithKeys(1, 2, 3);
        Due.is("begin", x.count(9), 1);
        x.write(1, true);
        Due.is("write", x.count(9), 4);
        x.read(1, false);
        x.plan(ADD, 30, INT, 0, 0);
        x.crash(0);
        x.scrap();
        Due.is("others don't count", x.count(9), 4);
        x.backfill();
        Due.is("backfill", x.count(9), 3);
        x.remove(1);
        Due.is("remove", x.count(9), 4);
        x.crash(3);
        x.write(2, true);
        Due.is("when DOWN", x.count(9), 2);
        x.restart();
        Due.is("restart", x.count(9), 3);
        x.rollback();
        Due.is("rollback", x.count(9), 1);
        x.plan(ADD, 30, INT, 0, 0);
        x.begin();
        x.finish();
        Due.is("finish", x.count(9), 1);
    }

    private static void countLatestOfNone() {
        ShiftHouse x = new ShiftHouse();
        Due.is("before one", x.count(9), 0);
        x.write(1, false);
        x.write(1, true);
        Due.is("write", x.count(9), 0);
        x.write(1, false);
        x.remove(2);
        Due.is("remove", x.count(9), 0);
        x.write(1, false);
        x.begin();
        Due.is("begin", x.count(9), 0);
        x.write(1, false);
        x.finish();
        Due.is("finish", x.count(9), 0);
        x.write(1, false);
        x.rollback();
        Due.is("rollback", x.count(9), 0);
        x.write(1, false);
        x.restart();
        Due.is("restart", x.count(9), 0);
        x.plan(ADD, 1, INT, 0, 0);
        x.begin();
        x.crash(2);
        x.write(1, false);
        Due.is("one was done", x.count(9), 1);
        x.backfill();
        Due.is("backfill when DOWN", x.count(9), 0);
    }

    private static void noSuchCount() {
        ShiftHouse x = Houses.withKeys(1);
        int[] wrong = {-1, 10, LEAST, GREATEST};
        for (int what : wrong) {
            Due.is("count(" + what + ")", x.count(what), -1);
        }
        down(x);
        for (int what : wrong) {
            Due.is("count(" + what + ") when DOWN", x.count(what), -1);
        }
    }

    private static void countsWhenDown() {
        ShiftHouse x = Houses.runningWithKeys(1);
        x.plan(ADD, 30, INT, 0, 0);
        x.crash(4);
        x.write(1, false);
        for (int what = 0; what <= 6; what++) {
            Due.is("count(" + what + ")", x.count(what), -8);
        }
        Due.is("count(7)", x.count(7), 7);
        Due.is("count(8)", x.count(8), 1);
        Due.is("count(9)", x.count(9), 3);
    }

    // ---- column

    private static void columnsOfBoth() {
        ShiftHouse x = Houses.withColumns(0, 1, 2, 3, 4, 3, 2, 1);
        x.plan(Houses.DROP, 0, 0, 0, 0);
        x.plan(Houses.RETYPE, 7, Houses.LONG, 0, 0);
        x.begin();
        Due.is("the first", x.column(0, false), 0);
        Due.is("the last", x.column(7, false), 56 + 1);
        Due.is("the next schema's first", x.column(0, true), 8 + 1);
        Due.is("the next schema's last", x.column(6, true), 56 + Houses.LONG);
        x.finish();
        Due.is("finished", x.column(6, false), 56 + Houses.LONG);
    }

    private static void nameAndType() {
        int[] names = {0, 1, 62, 63};
        for (int name : names) {
            for (int type = 0; type <= 4; type++) {
                ShiftHouse x = new ShiftHouse();
                x.plan(ADD, name, type, 0, 0);
                x.begin();
                Due.is("name " + name + ", type " + type, x.column(0, true), 8 * name + type);
            }
        }
    }

    private static void columnWhenDown() {
        ShiftHouse x = down(Houses.runningWithKeys(1));
        Due.is("THE SCHEMA's", x.column(0, false), -8);
        Due.is("THE NEXT SCHEMA's", x.column(0, true), -8);
        Due.is("none", x.column(8, false), -8);
    }

    private static void columnOfNoMigration() {
        ShiftHouse x = Houses.withColumns(INT, TEXT);
        int[] any = {-1, 0, 1, 2, LEAST, GREATEST};
        for (int i : any) {
            Due.is("column " + i, x.column(i, true), -2);
        }
        ShiftHouse y = Houses.runningWithKeys(1);
        y.finish();
        Due.is("finished", y.column(0, true), -2);
        y = Houses.runningWithKeys(1);
        y.rollback();
        Due.is("rolled back", y.column(0, true), -2);
    }

    private static void noSuchColumn() {
        Due.is("no columns", new ShiftHouse().column(0, false), -1);
        ShiftHouse x = Houses.runningWithKeys(1);
        int[] wrong = {-1, 1, 8, LEAST, GREATEST};
        for (int i : wrong) {
            Due.is("column " + i, x.column(i, false), -1);
        }
        int[] wrongNext = {-1, 2, 8, LEAST, GREATEST};
        for (int i : wrongNext) {
            Due.is("next column " + i, x.column(i, true), -1);
        }
        ShiftHouse eight = Houses.withColumns(0, 0, 0, 0, 0, 0, 0, 0);
        Due.is("a ninth column", eight.column(8, false), -1);
    }
}
