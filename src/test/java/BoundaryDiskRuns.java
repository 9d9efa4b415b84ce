import java.util.function.Supplier;
import java.util.function.ToIntFunction;

/** The part of 'Terms' on the disk, sentence by sentence. */
public final class BoundaryDiskRuns {
    private static final int INT = Houses.INT;
    private static final int ADD = Houses.ADD;

    public static void main(String[] args) {
        Part.between("==== THE DISK", "A call that is refused")
            .skip("THE DISK keeps the rows in two places, MAIN and SHADOW, and a HEAD and a NOTE.")
            .holds("Each change of one of these is an ACTION.", BoundaryDiskRuns::changesAreActions)
            .holds("(What is told here counts for the ACTIONS, for crashes, and for which rows LAG; else all is as told"
                + " above.)", BoundaryDiskRuns::elseAsToldAbove)
            .holds("A row LAGS, if it is not on the disk as it will be in the end: RUNNING: all rows LAG behind"
                + " begin()", BoundaryDiskRuns::allLagBehindBegin)
            .holds("a row that is written, or filled in, doesn't any more.", BoundaryDiskRuns::writtenOrFilledIn)
            .holds("finish(): the rows that LAGGED LAG on, as BEHIND ones; the others LAG as SHADOWED ones.",
                BoundaryDiskRuns::behindAndShadowed)
            .holds("rollback(): the rows that had been BEHIND before begin() LAG so again, but for those that were"
                + " written since (in either schema); no others do.", BoundaryDiskRuns::behindAgain)
            .holds("(begin() is refused while a row is SHADOWED.)", BoundaryDiskRuns::noBeginWhileShadowed)
            .holds("ACTIONS, in their order: begin(), finish(), rollback(): 1 (the HEAD).",
                BoundaryDiskRuns::actionsOfTheHead)
            .holds("STABLE: a row that is written: 1; a SHADOWED one stays SHADOWED, others don't LAG then",
                BoundaryDiskRuns::stableWrites)
            .holds("a row that is removed: 1, a SHADOWED one 2.", BoundaryDiskRuns::stableRemoves)
            .holds("RUNNING: a row that is written or removed: 4 (the NOTE, MAIN, SHADOW, the NOTE is gone).",
                BoundaryDiskRuns::runningChanges)
            .holds("backfill(): RUNNING 1 for each row; STABLE 1 for each row that is BEHIND, 2 for each that is"
                + " SHADOWED; then 1 more (the HEAD)", BoundaryDiskRuns::actionsOfBackfill)
            .holds("none at all, if no row LAGS.", BoundaryDiskRuns::backfillOfNone)
            .holds("crash(n) tells that the n-th ACTION from then on (the restarts' own counted) is not done",
                BoundaryDiskRuns::nthAction)
            .holds("the house is DOWN at that moment instead, and the call answers -9", BoundaryDiskRuns::downInstead)
            .holds("no further crash is told then.", BoundaryDiskRuns::noFurtherCrash)
            .holds("When it is DOWN, all calls that name -8 answer that.", BoundaryDiskRuns::callsThatNameDown)
            .holds("What the call had done: nothing, when its first ACTION was not done.",
                BoundaryDiskRuns::firstActionNotDone)
            .holds("Else, begin(), finish(), rollback() and what is written or removed while STABLE: nothing (of a"
                + " SHADOWED row that is removed: if the second one is not done, nothing either, the row is there and"
                + " SHADOWED).", BoundaryDiskRuns::secondActionNotDone)
            .holds("What is written or removed while RUNNING: all, when the first ACTION was done (it is so behind"
                + " restart()).", BoundaryDiskRuns::laterActionNotDone)
            .holds("backfill(): the rows whose ACTIONS were all done are filled in, no others.",
                BoundaryDiskRuns::filledInBeforeTheCrash)
            .holds("restart(): the house is up again, if no ACTION of it is not done", BoundaryDiskRuns::upAgain)
            .holds("3 ACTIONS, if a NOTE is on the disk (MAIN, SHADOW, the NOTE is gone; a NOTE whose last ACTION was"
                + " not done is on the disk still), else none.", BoundaryDiskRuns::actionsOfRestart)
            .end();
        Due.end();
    }

    private static void lags(String when, ShiftHouse x, int lagging, int shadowed) {
        Due.is(when + ": rows that LAG", x.count(5), lagging);
        Due.is(when + ": SHADOWED rows", x.count(6), shadowed);
    }

    private static ShiftHouse beginAnother(ShiftHouse x) {
        x.plan(ADD, 40, INT, 0, 0);
        x.begin();
        return x;
    }

    /** STABLE; the rows 1 and 3 are BEHIND, 2 and 4 SHADOWED, 5 doesn't LAG. */
    private static ShiftHouse mixed() {
        ShiftHouse x = Houses.runningWithKeys(1, 2, 3);
        x.draft(0, 0, 8);
        x.write(2, true);
        x.write(4, false);
        x.finish();
        x.write(5, false);
        return x;
    }

    // ---- which rows LAG

    private static void changesAreActions() {
        ShiftHouse x = Houses.withKeys(1, 2);
        int before = x.count(7);
        x.read(1, false);
        x.plan(ADD, 9, INT, 0, 0);
        x.draft(0, 0, 1);
        x.letters(0, 0, 1);
        x.next(0, true);
        x.more(0, true);
        x.crash(5);
        x.crash(0);
        x.scrap();
        Due.is("what is not on the disk", x.count(7), before);
        x.write(1, false);
        Due.is("a row", x.count(7), before + 1);
        x.remove(1);
        Due.is("another one", x.count(7), before + 2);
    }

    private static void elseAsToldAbove() {
        ShiftHouse x = mixed();
        for (int filled = 0; filled < 3; filled++) {
            Due.isRow("BEHIND or filled in", x, 1, false, 1, 7);
            Due.isRow("SHADOWED or filled in", x, 2, false, 8, 0);
            Due.isRow("another one", x, 5, false, 8, 0);
            x.backfill();
        }
    }

    private static void allLagBehindBegin() {
        ShiftHouse x = Houses.withKeys(1, 2, 3);
        lags("STABLE", x, 0, 0);
        beginAnother(x);
        lags("begin", x, 3, 0);
        x.finish();
        x.write(1, false);
        lags("one of three BEHIND is written", x, 2, 0);
        x.plan(ADD, 41, INT, 0, 0);
        x.begin();
        lags("begin with two BEHIND", x, 3, 0);
        lags("begin without rows", beginAnother(new ShiftHouse()), 0, 0);
    }

    private static void writtenOrFilledIn() {
        ShiftHouse x = Houses.runningWithKeys(1, 2, 3, 4, 5, 6);
        x.write(2, false);
        lags("written in THE SCHEMA", x, 5, 0);
        x.write(4, true);
        lags("written in THE NEXT SCHEMA", x, 4, 0);
        x.write(4, false);
        lags("written again", x, 4, 0);
        x.write(9, true);
        lags("written anew", x, 4, 0);
        x.remove(6);
        lags("removed", x, 3, 0);
        x.write(6, true);
        lags("written behind that", x, 3, 0);
        Due.is("filled in", x.backfill(), 3);
        lags("filled in", x, 0, 0);
    }

    private static void behindAndShadowed() {
        ShiftHouse x = Houses.runningWithKeys(1, 2, 3, 4, 5, 6);
        x.backfill();
        x.write(6, false);
        lags("one is left", x, 1, 0);
        x.finish();
        lags("that one is BEHIND, the others SHADOWED", x, 6, 5);
        x.remove(5);
        lags("it was 5", x, 5, 5);
        ShiftHouse y = Houses.runningWithKeys(1, 2);
        y.finish();
        lags("all are BEHIND", y, 2, 0);
        beginAnother(y);
        y.finish();
        lags("and BEHIND by two", y, 2, 0);
    }

    private static void behindAgain() {
        ShiftHouse x = Houses.runningWithKeys(1, 2, 3, 4, 5, 6, 7);
        x.finish();
        x.write(7, false);
        beginAnother(x);
        x.backfill();
        x.write(1, false);
        x.write(2, true);
        x.remove(3);
        x.write(3, false);
        x.write(8, true);
        lags("5, 6 and 7", x, 3, 0);
        x.rollback();
        lags("4, 5 and 6", x, 3, 0);
        int[] others = {1, 2, 3, 7, 8};
        for (int key : others) {
            x.remove(key);
        }
        lags("no others", x, 3, 0);
        beginAnother(x);
        x.rollback();
        lags("and again", x, 3, 0);
        x.backfill();
        beginAnother(x);
        x.rollback();
        lags("not those that were filled in before begin", x, 0, 0);
    }

    private static void noBeginWhileShadowed() {
        ShiftHouse x = mixed();
        x.plan(ADD, 40, INT, 0, 0);
        Due.is("two are SHADOWED", x.begin(), -2);
        x.remove(2);
        Due.is("one is SHADOWED", x.begin(), -2);
        x.write(4, false);
        Due.is("it is written", x.begin(), -2);
        x.backfill();
        Due.is("none is", x.begin(), 3);
        x = mixed();
        x.remove(2);
        x.remove(4);
        x.plan(ADD, 40, INT, 0, 0);
        Due.is("they are removed, two are BEHIND", x.begin(), 3);
    }

    // ---- ACTIONS

    private static void took(String call, ShiftHouse x, int before, int actions) {
        Due.is(call + ": ACTIONS of the call", x.count(9), actions);
        Due.is(call + ": all ACTIONS", x.count(7) - before, actions);
    }

    private static void takes(String call, ShiftHouse x, ToIntFunction<ShiftHouse> what, int answer, int actions) {
        int before = x.count(7);
        Due.is(call, what.applyAsInt(x), answer);
        took(call, x, before, actions);
    }

    private static void actionsOfTheHead() {
        ShiftHouse x = mixed();
        x.backfill();
        x.plan(ADD, 40, INT, 0, 0);
        takes("begin", x, ShiftHouse::begin, 3, 1);
        takes("rollback", x, ShiftHouse::rollback, 2, 1);
        x.plan(ADD, 40, INT, 0, 0);
        x.begin();
        takes("finish", x, ShiftHouse::finish, 3, 1);
    }

    private static void stableWrites() {
        ShiftHouse x = mixed();
        lags("at first", x, 4, 2);
        takes("SHADOWED", x, h -> h.write(2, false), 1, 1);
        lags("SHADOWED", x, 4, 2);
        takes("BEHIND", x, h -> h.write(1, false), 1, 1);
        lags("BEHIND", x, 3, 2);
        takes("neither", x, h -> h.write(5, false), 1, 1);
        lags("neither", x, 3, 2);
        takes("new", x, h -> h.write(6, false), 0, 1);
        lags("new", x, 3, 2);
    }

    private static void stableRemoves() {
        ShiftHouse x = mixed();
        takes("SHADOWED", x, h -> h.remove(2), 1, 2);
        takes("BEHIND", x, h -> h.remove(1), 1, 1);
        takes("neither", x, h -> h.remove(5), 1, 1);
        x.write(4, false);
        takes("SHADOWED and written", x, h -> h.remove(4), 1, 2);
        x.write(4, false);
        takes("new where a SHADOWED one was", x, h -> h.remove(4), 1, 1);
    }

    private static void runningChanges() {
        ShiftHouse x = Houses.runningWithKeys(1, 2, 3);
        takes("in THE SCHEMA", x, h -> h.write(1, false), 1, 4);
        takes("in THE NEXT SCHEMA", x, h -> h.write(2, true), 1, 4);
        takes("new", x, h -> h.write(4, false), 0, 4);
        takes("removed, written before", x, h -> h.remove(1), 1, 4);
        takes("removed, LAGS", x, h -> h.remove(3), 1, 4);
    }

    private static void actionsOfBackfill() {
        takes("RUNNING, four of five", Houses.runningWithKeys(1, 2, 3, 4, 5), ShiftHouse::backfill, 4, 5);
        takes("RUNNING, one", Houses.runningWithKeys(1), ShiftHouse::backfill, 1, 2);
        ShiftHouse x = mixed();
        takes("STABLE, two BEHIND, two SHADOWED", x, ShiftHouse::backfill, 4, 7);
        x = mixed();
        x.remove(2);
        x.remove(4);
        takes("STABLE, two BEHIND", x, ShiftHouse::backfill, 2, 3);
        x = mixed();
        x.remove(1);
        x.remove(2);
        x.remove(3);
        takes("STABLE, one SHADOWED", x, ShiftHouse::backfill, 1, 3);
    }

    private static void backfillOfNone() {
        takes("no rows", new ShiftHouse(), ShiftHouse::backfill, 0, 0);
        takes("STABLE", Houses.withKeys(1), ShiftHouse::backfill, 0, 0);
        ShiftHouse x = Houses.runningWithKeys(1);
        x.write(1, true);
        takes("RUNNING", x, ShiftHouse::backfill, 0, 0);
        x.crash(1);
        takes("no ACTION that could crash", x, ShiftHouse::backfill, 0, 0);
    }

    // ---- crashes

    private static void nthAction() {
        for (int n = 1; n <= 9; n++) {
            ShiftHouse x = Houses.runningWithKeys(1);
            int before = x.count(7);
            x.crash(n);
            for (int i = 0; i < 3 && !x.isDown(); i++) {
                x.write(1, false);
            }
            Due.is("crash " + n + ": ACTIONS done", x.count(7) - before, n - 1);
        }
        ShiftHouse x = Houses.runningWithKeys(1);
        x.crash(3);
        x.write(1, false);
        int before = x.count(7);
        x.crash(5);
        Due.is("a restart of 3 ACTIONS", x.restart(), 1);
        Due.is("the fifth is the write's second", x.write(1, false), -9);
        Due.is("ACTIONS done", x.count(7) - before, 4);
        ShiftHouse up = everyCall(0);
        int actions = up.count(7);
        Due.is("calls of each kind", up.isDown(), false);
        for (int n = 1; n <= actions; n++) {
            ShiftHouse down = everyCall(n);
            Due.is("crash " + n + " of calls of each kind: DOWN", down.isDown(), true);
            Due.is("crash " + n + " of calls of each kind: ACTIONS done", down.count(7), n - 1);
        }
        Due.is("a crash that does not come", everyCall(actions + 1).isDown(), false);
        ShiftHouse late = everyCall(actions + 1);
        Due.is("a crash that comes with the next ACTION", late.write(1, false), -9);
    }

    /** A crash is told, then come calls of each kind, among them refused ones and ones without ACTIONS. */
    private static ShiftHouse everyCall(int n) {
        ShiftHouse x = new ShiftHouse();
        x.crash(n);
        x.write(1, false);
        x.write(2, false);
        x.write(2, true);
        x.plan(ADD, 1, INT, 0, 0);
        x.begin();
        x.write(2, true);
        x.remove(9);
        x.rollback();
        x.plan(ADD, 1, INT, 0, 0);
        x.begin();
        x.write(3, true);
        x.remove(1);
        x.begin();
        x.backfill();
        x.read(2, true);
        x.finish();
        x.remove(3);
        x.backfill();
        x.backfill();
        x.write(2, false);
        return x;
    }

    private static void downInstead() {
        goesDown("write", () -> Houses.withKeys(1), 1, h -> h.write(1, false));
        goesDown("write while RUNNING", () -> Houses.runningWithKeys(1), 4, h -> h.write(1, true));
        goesDown("remove", () -> Houses.withKeys(1), 1, h -> h.remove(1));
        goesDown("remove of a SHADOWED one", BoundaryDiskRuns::mixed, 2, h -> h.remove(2));
        goesDown("remove while RUNNING", () -> Houses.runningWithKeys(1), 4, h -> h.remove(1));
        goesDown("begin", BoundaryDiskRuns::planned, 1, ShiftHouse::begin);
        goesDown("finish", () -> Houses.runningWithKeys(1), 1, ShiftHouse::finish);
        goesDown("rollback", () -> Houses.runningWithKeys(1), 1, ShiftHouse::rollback);
        goesDown("backfill", BoundaryDiskRuns::mixed, 7, ShiftHouse::backfill);
        goesDown("backfill while RUNNING", () -> Houses.runningWithKeys(1, 2), 3, ShiftHouse::backfill);
    }

    private static ShiftHouse planned() {
        ShiftHouse x = Houses.withKeys(1, 2, 3);
        x.plan(ADD, 40, INT, 0, 0);
        return x;
    }

    private static void goesDown(String call, Supplier<ShiftHouse> start, int actions, ToIntFunction<ShiftHouse> what) {
        for (int n = 1; n <= actions + 1; n++) {
            ShiftHouse x = start.get();
            x.crash(n);
            int answer = what.applyAsInt(x);
            Due.is(call + " at " + n + " answers -9", answer == -9, n <= actions);
            Due.is(call + " at " + n + ": DOWN", x.isDown(), n <= actions);
            Due.is(call + " at " + n + ": ACTIONS", x.count(9), n - 1);
        }
    }

    private static void noFurtherCrash() {
        ShiftHouse x = Houses.withKeys(1);
        x.crash(2);
        x.write(1, false);
        x.write(1, false);
        Due.is("DOWN", x.isDown(), true);
        x.restart();
        for (int i = 0; i < 6; i++) {
            Due.is("another write", x.write(1, false), 1);
        }
    }

    private static void callsThatNameDown() {
        ShiftHouse x = mixed();
        x.plan(ADD, 40, INT, 0, 0);
        x.crash(1);
        x.write(1, false);
        Due.is("write", x.write(1, false), -8);
        Due.is("remove", x.remove(1), -8);
        Due.is("read", x.read(1, false), -8);
        Due.is("more", x.more(1, false), -8);
        Due.is("begin", x.begin(), -8);
        Due.is("finish", x.finish(), -8);
        Due.is("rollback", x.rollback(), -8);
        Due.is("backfill", x.backfill(), -8);
        for (int what = 0; what <= 6; what++) {
            Due.is("count(" + what + ")", x.count(what), -8);
        }
        Due.is("column", x.column(0, false), -8);
        Due.is("still DOWN", x.isDown(), true);
    }

    /** A call that crashes at its first ACTION leaves the house as it was. */
    private static void doesNothing(String call, Supplier<ShiftHouse> start, ToIntFunction<ShiftHouse> what) {
        ShiftHouse x = start.get();
        x.crash(1);
        Due.is(call, what.applyAsInt(x), -9);
        Twins.answerAlike(call, start, twin -> {
            twin.crash(1);
            what.applyAsInt(twin);
            twin.restart();
        });
    }

    private static void firstActionNotDone() {
        doesNothing("write", BoundaryDiskRuns::mixed, h -> h.write(1, false));
        doesNothing("write of a SHADOWED one", BoundaryDiskRuns::mixed, h -> h.write(2, false));
        doesNothing("write anew", BoundaryDiskRuns::mixed, h -> h.write(41, false));
        doesNothing("remove", BoundaryDiskRuns::mixed, h -> h.remove(1));
        doesNothing("remove of a SHADOWED one", BoundaryDiskRuns::mixed, h -> h.remove(2));
        doesNothing("backfill", BoundaryDiskRuns::mixed, ShiftHouse::backfill);
        doesNothing("begin", BoundaryDiskRuns::planned, ShiftHouse::begin);
        Supplier<ShiftHouse> running = () -> Houses.runningWithKeys(1, 2, 3);
        doesNothing("finish", running, ShiftHouse::finish);
        doesNothing("rollback", running, ShiftHouse::rollback);
        doesNothing("backfill while RUNNING", running, ShiftHouse::backfill);
        doesNothing("write while RUNNING", running, h -> h.write(1, false));
        doesNothing("write in THE NEXT SCHEMA", running, h -> h.write(1, true));
        doesNothing("write anew while RUNNING", running, h -> h.write(41, true));
        doesNothing("remove while RUNNING", running, h -> h.remove(1));
    }

    private static void secondActionNotDone() {
        ShiftHouse x = mixed();
        x.crash(2);
        Due.is("remove", x.remove(2), -9);
        Due.is("one ACTION was done", x.count(9), 1);
        x.restart();
        Due.is("no NOTE", x.count(9), 0);
        Due.isRow("the row is there", x, 2, false, 8, 0);
        lags("and SHADOWED", x, 4, 2);
        takes("remove again", x, h -> h.remove(2), 1, 2);
        ShiftHouse y = planned();
        y.crash(1);
        y.begin();
        y.restart();
        Due.is("the PLAN stays", y.count(8), 1);
        Due.is("none RUNS", y.count(1), 0);
        Due.is("begin again", y.begin(), 2);
        y.crash(1);
        y.finish();
        y.restart();
        Due.is("not finished", y.count(0), 1);
        y.crash(1);
        y.rollback();
        y.restart();
        Due.is("not rolled back", y.count(1), 1);
    }

    private static void laterActionNotDone() {
        for (int n = 2; n <= 4; n++) {
            ShiftHouse x = Houses.runningWithKeys(1, 2, 3);
            x.draft(0, 0, 50);
            x.draft(1, 0, 51);
            x.crash(n);
            Due.is("write, crash " + n, x.write(1, true), -9);
            x.restart();
            Due.isRow("NEW, crash " + n, x, 1, true, 50, 51);
            Due.isRow("PRIOR, crash " + n, x, 1, false, 50);
            lags("written, crash " + n, x, 2, 0);
            x.crash(n);
            Due.is("write in THE SCHEMA, crash " + n, x.write(2, false), -9);
            x.restart();
            Due.isRow("UP, crash " + n, x, 2, true, 50, 7);
            lags("written in THE SCHEMA, crash " + n, x, 1, 0);
            x.crash(n);
            Due.is("write anew, crash " + n, x.write(9, true), -9);
            x.restart();
            Due.isRow("new, crash " + n, x, 9, true, 50, 51);
            x.crash(n);
            Due.is("remove, crash " + n, x.remove(3), -9);
            x.restart();
            Due.is("gone, crash " + n, x.read(3, false), 0);
            Due.is("rows, crash " + n, x.count(4), 3);
            lags("removed, crash " + n, x, 0, 0);
        }
    }

    private static void filledInBeforeTheCrash() {
        int[] filled = {0, 1, 1, 2, 3, 3, 4};
        int[] shadowed = {2, 2, 2, 1, 1, 1, 0};
        for (int n = 1; n <= 7; n++) {
            ShiftHouse x = mixed();
            x.crash(n);
            Due.is("STABLE, crash " + n, x.backfill(), -9);
            x.restart();
            lags("STABLE, crash " + n, x, 4 - filled[n - 1], shadowed[n - 1]);
        }
        for (int n = 1; n <= 5; n++) {
            ShiftHouse x = Houses.runningWithKeys(1, 2, 3, 4, 5);
            x.crash(n);
            Due.is("RUNNING, crash " + n, x.backfill(), -9);
            x.restart();
            lags("RUNNING, crash " + n, x, 6 - n, 0);
            x.finish();
            lags("finish, crash " + n, x, 5, n - 1);
        }
    }

    private static void upAgain() {
        ShiftHouse x = Houses.runningWithKeys(1);
        x.crash(2);
        x.write(1, false);
        for (int n = 1; n <= 3; n++) {
            x.crash(n);
            Due.is("ACTION " + n + " not done", x.restart(), -9);
            Due.is("DOWN still", x.isDown(), true);
        }
        x.crash(4);
        Due.is("its three are done", x.restart(), 1);
        Due.is("up", x.isDown(), false);
    }

    private static void actionsOfRestart() {
        for (int n = 1; n <= 4; n++) {
            ShiftHouse x = Houses.runningWithKeys(1);
            x.crash(n);
            x.write(1, false);
            takes("restart, crash " + n, x, ShiftHouse::restart, 1, n == 1 ? 0 : 3);
            x.crash(1);
            x.write(1, false);
            takes("no NOTE any more, crash " + n, x, ShiftHouse::restart, 1, 0);
        }
        ShiftHouse x = Houses.runningWithKeys(1);
        x.crash(4);
        x.remove(1);
        x.crash(3);
        takes("the NOTE is on the disk still", x, ShiftHouse::restart, -9, 2);
        takes("and still", x, ShiftHouse::restart, 1, 3);
        ShiftHouse y = mixed();
        y.crash(2);
        y.remove(2);
        takes("none while STABLE", y, ShiftHouse::restart, 1, 0);
        ShiftHouse z = Houses.runningWithKeys(1);
        z.crash(2);
        z.backfill();
        takes("none of backfill", z, ShiftHouse::restart, 1, 0);
    }
}
