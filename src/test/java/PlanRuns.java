/** Promises 2 and 3: plan, scrap. */
public final class PlanRuns {
    public static void main(String[] args) {
        wrongInputs();
        edgesOfInputs();
        whatIsNotLookedAt();
        sixSteps();
        scrapped();
        defaults();
        staysWhateverCrashes();
        Due.end();
    }

    private static void wrongInputs() {
        ShiftHouse x = new ShiftHouse();
        int[] noWhats = {-1, 4, Integer.MIN_VALUE, Integer.MAX_VALUE};
        for (int what : noWhats) {
            Due.is("plan with what " + what, x.plan(what, 1, 1, 0, 0), -1);
        }
        int[] noNames = {-1, 64, Integer.MIN_VALUE, Integer.MAX_VALUE};
        for (int name : noNames) {
            for (int what = 0; what <= 3; what++) {
                Due.is("plan " + what + " with name " + name, x.plan(what, name, 1, 0, 0), -1);
            }
            Due.is("RENAME to " + name, x.plan(Houses.RENAME, 1, name, 0, 0), -1);
        }
        int[] noTypes = {-1, 5, 63, Integer.MIN_VALUE, Integer.MAX_VALUE};
        for (int type : noTypes) {
            Due.is("ADD of type " + type, x.plan(Houses.ADD, 1, type, 0, 0), -1);
            Due.is("RETYPE to type " + type, x.plan(Houses.RETYPE, 1, type, 0, 0), -1);
        }
        Due.is("none of these is a step", x.count(8), 0);
    }

    private static void edgesOfInputs() {
        for (int type = 0; type <= 4; type++) {
            ShiftHouse x = new ShiftHouse();
            Due.is("ADD of type " + type, x.plan(Houses.ADD, 0, type, -1, -1), 1);
            Due.is("RETYPE to type " + type, x.plan(Houses.RETYPE, 63, type, 0, 0), 2);
        }
        ShiftHouse x = new ShiftHouse();
        Due.is("RENAME 0 to 63", x.plan(Houses.RENAME, 0, 63, 0, 0), 1);
        Due.is("RENAME 63 to 0", x.plan(Houses.RENAME, 63, 0, 0, 0), 2);
        Due.is("DROP 63", x.plan(Houses.DROP, 63, 0, 0, 0), 3);
        Due.is("DROP 0", x.plan(Houses.DROP, 0, 0, 0, 0), 4);
    }

    private static void whatIsNotLookedAt() {
        ShiftHouse x = new ShiftHouse();
        Due.is("DROP with other -1", x.plan(Houses.DROP, 1, -1, -5, 7), 1);
        Due.is("DROP with other 1000", x.plan(Houses.DROP, 1, 1000, 0, 0), 2);
        Due.is("RENAME with a, b", x.plan(Houses.RENAME, 1, 2, -5, 7), 3);
        Due.is("RETYPE with a, b", x.plan(Houses.RETYPE, 1, 2, -5, 7), 4);
    }

    private static void sixSteps() {
        ShiftHouse x = new ShiftHouse();
        for (int i = 1; i <= 6; i++) {
            Due.is("step " + i, x.plan(Houses.ADD, i, Houses.INT, 0, 0), i);
        }
        Due.is("a seventh step", x.plan(Houses.ADD, 7, Houses.INT, 0, 0), -4);
        Due.is("a wrong seventh step", x.plan(Houses.ADD, 64, Houses.INT, 0, 0), -1);
        Due.is("a seventh step of no kind", x.plan(9, 1, Houses.INT, 0, 0), -1);
        Due.is("there are six still", x.count(8), 6);
        Due.is("begin with six", x.begin(), 6);
        Due.is("the PLAN is empty behind it", x.count(8), 0);
        Due.is("the sixth column", x.column(5, true), 8 * 6 + Houses.INT);
    }

    private static void scrapped() {
        ShiftHouse x = new ShiftHouse();
        Due.is("scrap of nothing", x.scrap(), 0);
        x.plan(Houses.ADD, 1, Houses.INT, 0, 0);
        x.plan(Houses.ADD, 2, Houses.INT, 0, 0);
        Due.is("scrap of two", x.scrap(), 2);
        Due.is("none is left", x.count(8), 0);
        Due.is("nothing to begin with", x.begin(), -2);
        x.plan(Houses.ADD, 3, Houses.TEXT, 0, 0);
        Due.is("a new PLAN has its own step alone", x.begin(), 1);
        Due.is("and that one", x.column(0, true), 8 * 3 + Houses.TEXT);
        x.plan(Houses.DROP, 3, 0, 0, 0);
        Due.is("scrap while RUNNING", x.scrap(), 1);
        Due.is("the migration RUNS on", x.count(3), 1);
    }

    private static void defaults() {
        ShiftHouse x = new ShiftHouse();
        x.write(1, false);
        x.plan(Houses.ADD, 1, Houses.FLAG, -1, 2);
        x.plan(Houses.ADD, 2, Houses.SHORT, 5, 0x18000);
        x.plan(Houses.ADD, 3, Houses.INT, 5, -3);
        x.plan(Houses.ADD, 4, Houses.LONG, 1, -1);
        x.plan(Houses.ADD, 5, Houses.TEXT, 0x41004200, 0x0000FF01);
        x.begin();
        x.read(1, true);
        Due.is("a FLAG's default", x.value(0), 0);
        Due.is("a SHORT's default", x.value(1), -32768);
        Due.is("an INT's default", x.value(2), -3);
        Due.is("a LONG's default", x.value(3), 0x1FFFFFFFFL);
        Due.isText("a TEXT's default", x, 4, "AB\u00FF\u0001");
    }

    private static void staysWhateverCrashes() {
        ShiftHouse x = new ShiftHouse();
        x.plan(Houses.ADD, 1, Houses.INT, 0, 0);
        x.crash(1);
        Due.is("begin crashes", x.begin(), -9);
        Due.is("the PLAN stays", x.count(8), 1);
        Due.is("plan when DOWN", x.plan(Houses.ADD, 2, Houses.INT, 0, 0), 2);
        Due.is("scrap when DOWN", x.scrap(), 2);
        Due.is("plan again when DOWN", x.plan(Houses.ADD, 3, Houses.INT, 0, 0), 1);
        Due.is("restart", x.restart(), 1);
        Due.is("the PLAN is there", x.count(8), 1);
        Due.is("begin", x.begin(), 1);
        Due.is("its column", x.column(0, true), 8 * 3 + Houses.INT);
    }
}
