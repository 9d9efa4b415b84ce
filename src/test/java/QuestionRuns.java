/** Promises 21 and 22: count, column. */
public final class QuestionRuns {
    public static void main(String[] args) {
        countsOfARun();
        noSuchCount();
        countsWhenDown();
        actionsOfTheLatestCall();
        columns();
        Due.end();
    }

    private static void counts(String when, ShiftHouse x, int... want) {
        for (int what = 0; what < want.length; what++) {
            Due.is(when + ": count(" + what + ")", x.count(what), want[what]);
        }
    }

    private static void countsOfARun() {
        ShiftHouse x = Houses.withKeys(1, 2, 3);
        counts("STABLE", x, 1, 0, 1, 0, 3, 0, 0, 5, 0, 1);
        x.plan(Houses.ADD, 9, Houses.INT, 0, 0);
        x.plan(Houses.ADD, 10, Houses.INT, 0, 0);
        counts("planned", x, 1, 0, 1, 0, 3, 0, 0, 5, 2, 1);
        x.begin();
        counts("RUNNING", x, 1, 1, 1, 3, 3, 3, 0, 6, 0, 1);
        x.write(4, true);
        counts("written", x, 1, 1, 1, 3, 4, 3, 0, 10, 0, 4);
        x.finish();
        counts("finished", x, 2, 0, 3, 0, 4, 4, 1, 11, 0, 1);
        x.backfill();
        counts("filled in", x, 2, 0, 3, 0, 4, 0, 0, 17, 0, 6);
        x.plan(Houses.DROP, 9, 0, 0, 0);
        x.begin();
        counts("RUNNING again", x, 2, 1, 3, 2, 4, 4, 0, 18, 0, 1);
        x.rollback();
        counts("rolled back", x, 2, 0, 3, 0, 4, 0, 0, 19, 0, 1);
    }

    private static void noSuchCount() {
        ShiftHouse x = Houses.withKeys(1);
        int[] wrong = {-1, 10, 11, Integer.MIN_VALUE, Integer.MAX_VALUE};
        for (int what : wrong) {
            Due.is("count(" + what + ")", x.count(what), -1);
        }
        x.crash(1);
        x.write(1, false);
        for (int what : wrong) {
            Due.is("count(" + what + ") when DOWN", x.count(what), -1);
        }
    }

    private static void countsWhenDown() {
        ShiftHouse x = Houses.runningWithKeys(1, 2);
        x.plan(Houses.ADD, 20, Houses.INT, 0, 0);
        x.crash(3);
        x.write(1, false);
        counts("DOWN", x, -8, -8, -8, -8, -8, -8, -8, 5 + 2, 1, 2);
        x.restart();
        counts("up", x, 1, 1, 1, 2, 2, 1, 0, 5 + 5, 1, 3);
    }

    private static void actionsOfTheLatestCall() {
        ShiftHouse x = Houses.runningWithKeys(1);
        x.write(1, false);
        Due.is("write", x.count(9), 4);
        x.read(1, false);
        x.more(0, true);
        x.next(0, true);
        x.seen();
        x.column(0, false);
        x.plan(Houses.ADD, 20, Houses.INT, 0, 0);
        x.draft(0, 0, 3);
        x.letters(0, 0, 3);
        x.crash(500);
        x.crash(0);
        x.scrap();
        x.isDown();
        Due.is("other calls don't count", x.count(9), 4);
        x.remove(77);
        Due.is("a refused remove", x.count(9), 0);
        x.write(1, false);
        x.begin();
        Due.is("a refused begin", x.count(9), 0);
        x.write(1, false);
        x.restart();
        Due.is("a refused restart", x.count(9), 0);
        x.finish();
        x.finish();
        Due.is("a refused finish", x.count(9), 0);
        x.write(1, false);
        x.rollback();
        Due.is("a refused rollback", x.count(9), 0);
        x.write(1, false);
        x.write(1, true);
        Due.is("a refused write", x.count(9), 0);
        x.crash(2);
        x.remove(1);
        Due.is("a remove that crashed", x.count(9), 1);
        x.backfill();
        Due.is("a refused backfill", x.count(9), 0);
        Due.is("refused calls take no ACTION away", x.count(7), 2 + 1 + 1 + 4 + 4 + 4 + 1 + 1 + 1 + 1);
    }

    private static void columns() {
        ShiftHouse x = Houses.withColumns(Houses.FLAG, Houses.SHORT, Houses.INT, Houses.LONG, Houses.TEXT);
        for (int i = 0; i < 5; i++) {
            Due.is("column " + i, x.column(i, false), 8 * i + i);
        }
        int[] wrong = {-1, 5, 8, Integer.MIN_VALUE, Integer.MAX_VALUE};
        for (int i : wrong) {
            Due.is("column " + i, x.column(i, false), -1);
            Due.is("next column " + i + " of none", x.column(i, true), -2);
        }
        x.plan(Houses.DROP, 1, 0, 0, 0);
        x.plan(Houses.RENAME, 2, 63, 0, 0);
        x.plan(Houses.RETYPE, 4, Houses.LONG, 0, 0);
        x.plan(Houses.ADD, 1, Houses.TEXT, 0, 0);
        x.plan(Houses.DROP, 3, 0, 0, 0);
        Due.is("begin", x.begin(), 4);
        Due.is("THE SCHEMA's columns", x.count(2), 5);
        Due.is("its column 1", x.column(1, false), 9);
        int[] want = {0, 8 * 63 + Houses.INT, 8 * 4 + Houses.LONG, 8 + Houses.TEXT, -1};
        for (int i = 0; i < want.length; i++) {
            Due.is("next column " + i, x.column(i, true), want[i]);
        }
        for (int i : wrong) {
            Due.is("next column " + i, x.column(i, true), -1);
        }
        x.crash(1);
        x.write(1, false);
        Due.is("column when DOWN", x.column(0, false), -8);
        Due.is("no column when DOWN", x.column(9, true), -8);
        x.restart();
        x.rollback();
        Due.is("column behind rollback", x.column(2, false), 18);
        x.crash(1);
        x.write(1, false);
        Due.is("next column of none when DOWN", x.column(0, true), -8);
    }
}
