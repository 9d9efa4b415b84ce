/** Promises 14 to 16 with UP and DOWN: begin, finish, rollback. */
public final class MigrationRuns {
    public static void main(String[] args) {
        refusals();
        wrongSteps();
        aWrongPlanStays();
        eightColumns();
        thirtyVersions();
        upStepByStep();
        downThroughRetypes();
        downOfDroppedColumns();
        downOfAColumnDroppedAndAddedAgain();
        downWithoutAnOldRow();
        downOfAddedColumns();
        finishKeepsNewForms();
        rollbackKeepsPriorForms();
        removedWhileRunning();
        allEightColumnsAndFortyRows();
        Due.end();
    }

    private static void refusals() {
        ShiftHouse x = new ShiftHouse();
        Due.is("begin without a PLAN", x.begin(), -2);
        Due.is("finish of nothing", x.finish(), -2);
        Due.is("rollback of nothing", x.rollback(), -2);
        x.plan(Houses.ADD, 1, Houses.INT, 0, 0);
        Due.is("begin", x.begin(), 1);
        Due.is("the version is still 0", x.count(0), 0);
        x.plan(Houses.DROP, 44, 0, 0, 0);
        Due.is("begin while RUNNING goes ahead of a WRONG step", x.begin(), -2);
        x.scrap();
        x.write(3, true);
        Due.is("finish", x.finish(), 1);
        Due.is("finish again", x.finish(), -2);
        Due.is("rollback behind finish", x.rollback(), -2);
        x.plan(Houses.DROP, 44, 0, 0, 0);
        Due.is("begin while SHADOWED goes ahead of a WRONG step", x.begin(), -2);
        Due.is("the PLAN stays", x.count(8), 1);
        x.backfill();
        Due.is("now the step is WRONG", x.begin(), -10);
        x.crash(1);
        x.write(3, false);
        Due.is("begin when DOWN", x.begin(), -8);
        Due.is("finish when DOWN", x.finish(), -8);
        Due.is("rollback when DOWN", x.rollback(), -8);
        Due.is("backfill when DOWN", x.backfill(), -8);
    }

    private static void wrongSteps() {
        isWrong("ADD of a name that is there", Houses.ADD, 0, Houses.INT);
        isWrong("DROP of none", Houses.DROP, 5, 0);
        isWrong("RENAME of none", Houses.RENAME, 5, 6);
        isWrong("RENAME of none to one that is there", Houses.RENAME, 5, 0);
        isWrong("RENAME to one that is there", Houses.RENAME, 0, 1);
        isWrong("RENAME to the same", Houses.RENAME, 0, 0);
        isWrong("RETYPE of none", Houses.RETYPE, 5, Houses.INT);
        isWrong("RETYPE of SHORT to TEXT", Houses.RETYPE, 0, Houses.TEXT);
        isWrong("RETYPE to the same type", Houses.RETYPE, 1, Houses.TEXT);
    }

    private static void isWrong(String call, int what, int name, int other) {
        ShiftHouse x = Houses.withColumns(Houses.SHORT, Houses.TEXT);
        x.plan(what, name, other, 0, 0);
        Due.is(call, x.begin(), -10);
        Due.is(call + ": none RUNS", x.count(1), 0);
        Due.is(call + ": its ACTIONS", x.count(9), 0);
        x.scrap();
        x.plan(Houses.RENAME, 1, 2, 0, 0);
        x.plan(Houses.RENAME, 2, 1, 0, 0);
        x.plan(what, name, other, 0, 0);
        Due.is(call + " as the third step", x.begin(), -12);
    }

    private static void aWrongPlanStays() {
        ShiftHouse x = Houses.withKeys(1);
        x.plan(Houses.ADD, 3, Houses.INT, 0, 0);
        x.plan(Houses.DROP, 0, 0, 0, 0);
        x.plan(Houses.DROP, 0, 0, 0, 0);
        Due.is("the second DROP is WRONG", x.begin(), -12);
        Due.is("the PLAN stays", x.count(8), 3);
        Due.is("THE SCHEMA stays", x.column(0, false), Houses.LONG);
        Due.is("its size", x.count(2), 1);
        Due.is("no next columns", x.count(3), 0);
        x.read(1, false);
        Due.is("the row stays", x.value(0), 1);
        Due.is("it doesn't LAG", x.count(5), 0);
        x.plan(Houses.ADD, 3, Houses.INT, 0, 0);
        Due.is("the first WRONG step counts", x.begin(), -12);
    }

    private static void eightColumns() {
        ShiftHouse x = Houses.withColumns(2, 2, 2, 2, 2, 2, 2);
        Due.is("two versions", x.count(0), 2);
        x.plan(Houses.ADD, 20, Houses.INT, 0, 0);
        x.plan(Houses.ADD, 21, Houses.INT, 0, 0);
        Due.is("a ninth column", x.begin(), -11);
        x.scrap();
        x.plan(Houses.ADD, 20, Houses.INT, 0, 0);
        x.plan(Houses.DROP, 0, 0, 0, 0);
        x.plan(Houses.ADD, 21, Houses.INT, 0, 0);
        Due.is("eight columns", x.begin(), 8);
        Due.is("the first one", x.column(0, true), 8 + Houses.INT);
        Due.is("the seventh one", x.column(6, true), 8 * 20 + Houses.INT);
        Due.is("the eighth one", x.column(7, true), 8 * 21 + Houses.INT);
        Due.is("no ninth", x.column(8, true), -1);
        Due.is("no eighth in THE SCHEMA", x.column(7, false), -1);
        for (int i = 0; i < 8; i++) {
            x.draft(i, 0, 100 + i);
        }
        x.write(1, true);
        x.read(1, false);
        Due.is("the DROPPED one is EMPTY", x.value(0), 0);
        for (int i = 1; i < 7; i++) {
            Due.is("column " + i, x.value(i), 99 + i);
        }
    }

    private static void thirtyVersions() {
        ShiftHouse x = new ShiftHouse();
        x.write(1, false);
        for (int v = 0; v < 30; v++) {
            x.plan(v % 2 == 0 ? Houses.ADD : Houses.DROP, 1, Houses.INT, 0, v);
            Due.is("begin in version " + v, x.begin(), 1 - v % 2);
            Due.is("finish in version " + v, x.finish(), v + 1);
        }
        Due.is("begin without a PLAN in version 30", x.begin(), -2);
        x.plan(Houses.DROP, 40, 0, 0, 0);
        Due.is("begin in version 30, ahead of a WRONG step", x.begin(), -4);
        Due.is("the row has been BEHIND all along", x.count(5), 1);
        Due.is("and is not SHADOWED", x.count(6), 0);
        Due.is("backfill in version 30", x.backfill(), 1);
        x.write(1, false);
        Due.is("the PLAN stays", x.count(8), 1);
    }

    private static void upStepByStep() {
        ShiftHouse x = Houses.withColumns(Houses.LONG, Houses.TEXT, Houses.INT);
        x.draft(0, 1, 0);
        Houses.lettersOf(x, 1, "-40000");
        x.draft(2, 0, 300);
        x.write(1, false);
        x.plan(Houses.RETYPE, 0, Houses.SHORT, 0, 0);
        x.plan(Houses.RETYPE, 0, Houses.LONG, 0, 0);
        x.plan(Houses.RETYPE, 1, Houses.INT, 0, 0);
        x.plan(Houses.DROP, 0, 0, 0, 0);
        x.plan(Houses.ADD, 0, Houses.INT, 0, 65);
        x.plan(Houses.RETYPE, 0, Houses.TEXT, 0, 0);
        Due.is("begin", x.begin(), 3);
        x.read(1, true);
        Due.is("the TEXT as INT", x.value(0), -40000);
        Due.is("the INT behind it", x.value(1), 300);
        Due.isText("the default as TEXT", x, 2, "65");
        x.read(1, false);
        Due.is("the PRIOR form", x.value(0), 1L << 32);
        Due.isText("the PRIOR TEXT", x, 1, "-40000");
        x.rollback();
        x.plan(Houses.RETYPE, 0, Houses.SHORT, 0, 0);
        x.plan(Houses.RENAME, 0, 50, 0, 0);
        x.plan(Houses.RETYPE, 50, Houses.LONG, 0, 0);
        x.begin();
        Due.is("RENAME and RETYPE leave it where it stands", x.column(0, true), 8 * 50 + Houses.LONG);
        x.read(1, true);
        Due.is("what became nearest stays so", x.value(0), 32767);
        x.draft(0, -1, 0);
        x.write(1, false);
        x.read(1, true);
        Due.is("a row written in THE SCHEMA goes UP", x.value(0), -32768);
    }

    private static void downThroughRetypes() {
        ShiftHouse x = Houses.withColumns(Houses.SHORT, Houses.TEXT, Houses.LONG);
        x.draft(0, 0, 5);
        Houses.lettersOf(x, 1, "word");
        x.write(1, false);
        x.plan(Houses.RETYPE, 0, Houses.INT, 0, 0);
        x.plan(Houses.RETYPE, 0, Houses.TEXT, 0, 0);
        x.plan(Houses.RENAME, 0, 10, 0, 0);
        x.plan(Houses.RETYPE, 10, Houses.LONG, 0, 0);
        x.plan(Houses.RETYPE, 1, Houses.INT, 0, 0);
        x.plan(Houses.RETYPE, 2, Houses.FLAG, 0, 0);
        x.begin();
        x.read(1, false);
        Due.isText("begin leaves the PRIOR form", x, 1, "word");
        x.draft(0, 1, 0);
        x.draft(1, 0, -90);
        x.draft(2, 0, 3);
        x.write(1, true);
        x.read(1, true);
        Due.is("the NEW form", x.value(0), 1L << 32);
        Due.is("its FLAG", x.value(2), 1);
        x.read(1, false);
        Due.is("a LONG through TEXT and INT to SHORT", x.value(0), 32767);
        Due.isText("an INT back to TEXT", x, 1, "-90");
        Due.is("a FLAG back to LONG", x.value(2), 1);
        x.draft(0, Integer.MIN_VALUE, 0);
        x.write(1, true);
        x.read(1, false);
        Due.is("a LONG of 19 digits is no number as TEXT", x.value(0), 0);
    }

    private static void downOfDroppedColumns() {
        ShiftHouse x = Houses.withColumns(Houses.INT, Houses.TEXT, Houses.INT, Houses.SHORT);
        x.draft(0, 0, 1);
        Houses.lettersOf(x, 1, "kept");
        x.draft(2, 0, 70000);
        x.draft(3, 0, 4);
        x.write(1, false);
        x.plan(Houses.DROP, 1, 0, 0, 0);
        x.plan(Houses.RETYPE, 2, Houses.SHORT, 0, 0);
        x.plan(Houses.RENAME, 2, 30, 0, 0);
        x.plan(Houses.DROP, 30, 0, 0, 0);
        x.begin();
        x.draft(0, 0, 11);
        x.draft(1, 0, 44);
        x.write(1, true);
        x.read(1, true);
        Due.is("two columns", x.seen(), 2);
        x.read(1, false);
        Due.is("the first one's new value", x.value(0), 11);
        Due.isText("the OLD row's TEXT", x, 1, "kept");
        Due.is("the OLD row's value as it was, RETYPED ahead of DROP or not", x.value(2), 70000);
        Due.is("the last one's new value", x.value(3), 44);
        x.draft(2, 0, 80000);
        x.letters(1, 0, 0x78);
        x.write(1, false);
        x.write(1, true);
        x.read(1, false);
        Due.isText("the PRIOR form under the key is the OLD row", x, 1, "x");
        Due.is("its other DROPPED value", x.value(2), 80000);
    }

    private static void downOfAColumnDroppedAndAddedAgain() {
        ShiftHouse x = Houses.withColumns(Houses.INT, Houses.INT);
        x.draft(0, 0, 1);
        x.draft(1, 0, 2);
        x.write(1, false);
        x.plan(Houses.DROP, 0, 0, 0, 0);
        x.plan(Houses.ADD, 0, Houses.INT, 0, 9);
        x.plan(Houses.ADD, 5, Houses.INT, 0, 8);
        x.plan(Houses.DROP, 5, 0, 0, 0);
        x.begin();
        x.read(1, true);
        Due.is("UP: the one that stays", x.value(0), 2);
        Due.is("UP: the default", x.value(1), 9);
        x.draft(0, 0, 20);
        x.draft(1, 0, 90);
        x.write(1, true);
        x.read(1, false);
        Due.is("DOWN: another column bears the name, the OLD row's value counts", x.value(0), 1);
        Due.is("DOWN: the one that stays", x.value(1), 20);
    }

    private static void downWithoutAnOldRow() {
        ShiftHouse x = Houses.withColumns(Houses.INT, Houses.TEXT);
        x.draft(0, 0, 7);
        Houses.lettersOf(x, 1, "gone");
        x.write(1, false);
        x.write(2, false);
        x.plan(Houses.DROP, 0, 0, 0, 0);
        x.plan(Houses.DROP, 1, 0, 0, 0);
        Due.is("no columns", x.begin(), 0);
        Due.is("write anew", x.write(3, true), 0);
        x.read(3, true);
        Due.is("no values", x.seen(), 0);
        x.read(3, false);
        Due.is("two values", x.seen(), 2);
        Due.is("an EMPTY number", x.value(0), 0);
        Due.isText("an EMPTY TEXT", x, 1, "");
        x.remove(1);
        x.write(1, true);
        x.read(1, false);
        Due.is("a removed row is no OLD row", x.value(0), 0);
        Due.isText("nor is its TEXT", x, 1, "");
        x.write(2, true);
        x.read(2, false);
        Due.is("an OLD row", x.value(0), 7);
        Due.isText("and its TEXT", x, 1, "gone");
    }

    private static void downOfAddedColumns() {
        ShiftHouse x = Houses.runningWithKeys(1);
        x.draft(0, 0, 50);
        x.draft(1, 0, 51);
        x.write(1, true);
        x.read(1, true);
        Due.is("the ADDED column's value", x.value(1), 51);
        x.draft(0, 0, 60);
        x.write(1, false);
        x.read(1, true);
        Due.is("written in THE SCHEMA", x.value(0), 60);
        Due.is("it has the default", x.value(1), 7);
        x.read(1, false);
        Due.is("the PRIOR form has one value", x.seen(), 1);
    }

    private static void finishKeepsNewForms() {
        ShiftHouse x = Houses.runningWithKeys(1, 2, 3);
        x.draft(0, 0, 20);
        x.draft(1, 0, 21);
        x.write(2, true);
        x.write(4, false);
        Due.is("finish", x.finish(), 2);
        Due.is("the version", x.count(0), 2);
        Due.is("none RUNS", x.count(1), 0);
        Due.is("THE SCHEMA", x.column(1, false), 8 * 9 + Houses.INT);
        Due.is("no next one", x.column(0, true), -2);
        long[][] want = {{1, 1, 7}, {2, 20, 21}, {3, 3, 7}, {4, 20, 7}};
        for (long[] row : want) {
            x.read((int) row[0], false);
            Due.is("row " + row[0] + ", value 0", x.value(0), row[1]);
            Due.is("row " + row[0] + ", value 1", x.value(1), row[2]);
        }
        Due.is("the next schema is gone", x.read(1, true), -2);
        x.backfill();
        x.plan(Houses.RETYPE, 0, Houses.FLAG, 0, 0);
        x.begin();
        x.read(2, true);
        Due.is("the next migration's NEW form", x.value(0), 1);
        x.read(2, false);
        Due.is("its PRIOR form", x.value(0), 20);
    }

    private static void rollbackKeepsPriorForms() {
        ShiftHouse x = Houses.runningWithKeys(1, 2, 3);
        x.draft(0, 0, 20);
        x.draft(1, 0, 21);
        x.write(2, true);
        x.write(4, true);
        x.write(5, false);
        Due.is("rollback", x.rollback(), 1);
        Due.is("the version", x.count(0), 1);
        Due.is("none RUNS", x.count(1), 0);
        Due.is("THE SCHEMA has one column", x.count(2), 1);
        Due.is("and that one", x.column(0, false), Houses.LONG);
        long[][] want = {{1, 1}, {2, 20}, {3, 3}, {4, 20}, {5, 20}};
        for (long[] row : want) {
            x.read((int) row[0], false);
            Due.is("row " + row[0], x.value(0), row[1]);
            Due.is("its size", x.seen(), 1);
        }
        x.plan(Houses.ADD, 8, Houses.FLAG, 0, 1);
        Due.is("another one begins", x.begin(), 2);
        Due.is("with its own column", x.column(1, true), 8 * 8);
        Due.is("and finishes", x.finish(), 2);
    }

    private static void allEightColumnsAndFortyRows() {
        ShiftHouse x = Houses.withColumns(2, 2, 2, 2, 2, 2, 2, 2);
        for (int key = 0; key < 40; key++) {
            x.draft(0, 0, key);
            x.draft(7, 0, -key);
            x.write(key, false);
        }
        x.plan(Houses.RETYPE, 7, Houses.LONG, 0, 0);
        Due.is("begin", x.begin(), 8);
        Due.is("forty rows LAG", x.count(5), 40);
        Due.is("rollback", x.rollback(), 2);
        x.plan(Houses.RETYPE, 7, Houses.LONG, 0, 0);
        x.begin();
        x.draft(7, 1, 0);
        Due.is("write in THE NEXT SCHEMA", x.write(39, true), 1);
        x.read(39, false);
        Due.is("its last value DOWN", x.value(7), Integer.MAX_VALUE);
        Due.is("finish", x.finish(), 3);
        for (int key = 0; key < 39; key++) {
            x.read(key, false);
            Due.is("row " + key, x.value(0), key);
            Due.is("its last value", x.value(7), -key);
        }
        for (int i = 0; i < 10; i++) {
            Due.is("backfill " + i, x.backfill(), 4);
        }
        Due.is("all are filled in", x.backfill(), 0);
    }

    private static void removedWhileRunning() {
        ShiftHouse x = Houses.runningWithKeys(1, 2);
        Due.is("remove", x.remove(1), 1);
        Due.is("gone in THE NEXT SCHEMA", x.read(1, true), 0);
        Due.is("gone in THE SCHEMA", x.read(1, false), 0);
        x.rollback();
        Due.is("gone behind rollback", x.read(1, false), 0);
        Due.is("the other one is there", x.read(2, false), 1);
    }
}
