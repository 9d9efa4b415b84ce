/** Promises 1 to 5, sentence by sentence: a new object, plan, scrap, draft, letters. */
public final class BoundaryPlanRuns {
    private static final int INT = Houses.INT;
    private static final int TEXT = Houses.TEXT;
    private static final int ADD = Houses.ADD;
    private static final int DROP = Houses.DROP;
    private static final int RENAME = Houses.RENAME;
    private static final int RETYPE = Houses.RETYPE;
    private static final int LEAST = Integer.MIN_VALUE;
    private static final int GREATEST = Integer.MAX_VALUE;

    public static void main(String[] args) {
        Part.promise(1)
            .holds("STABLE in version 0, no rows", BoundaryPlanRuns::newAndStable)
            .holds("an empty PLAN", BoundaryPlanRuns::newPlan)
            .holds("an empty DRAFT", BoundaryPlanRuns::newDraft)
            .holds("nothing SEEN", BoundaryPlanRuns::newSeen)
            .holds("up, no crash told", BoundaryPlanRuns::newAndUp)
            .end();
        Part.promise(2)
            .holds("One more step behind the others", BoundaryPlanRuns::behindTheOthers)
            .holds("what = 0 ADD name, type other, the default TOLD by that and a, b", BoundaryPlanRuns::planAdd)
            .holds("1 DROP name", BoundaryPlanRuns::planDrop)
            .holds("2 RENAME name to other", BoundaryPlanRuns::planRename)
            .holds("3 RETYPE name to type other.", BoundaryPlanRuns::planRetype)
            .holds("Answers how many there are.", BoundaryPlanRuns::howManySteps)
            .holds("-1: what is not 0 .. 3", BoundaryPlanRuns::noWhat)
            .holds("name not 0 .. 63", BoundaryPlanRuns::noName)
            .holds("other no name (2)", BoundaryPlanRuns::noOtherName)
            .holds("or no type (0, 3)", BoundaryPlanRuns::noType)
            .holds("(for 1 other, a, b, for 2, 3 a, b are not looked at)", BoundaryPlanRuns::notLookedAt)
            .holds("-4: there are 6.", BoundaryPlanRuns::thereAreSix)
            .end();
        Part.promise(3)
            .holds("The PLAN has no steps.", BoundaryPlanRuns::scrapped)
            .holds("Answers how many it had.", BoundaryPlanRuns::howManyItHad)
            .end();
        Part.promise(4)
            .holds("Cell i of the DRAFT is a, b, without letters.", BoundaryPlanRuns::cellIs)
            .holds("Answers 1.", BoundaryPlanRuns::draftAnswers)
            .holds("-1: i is not 0 .. 7.", BoundaryPlanRuns::noCellToDraft)
            .end();
        Part.promise(5)
            .holds("The characters that a TEXT told by a, b has come behind the letters of cell i of the DRAFT.",
                BoundaryPlanRuns::lettersBehind)
            .holds("Answers how many letters it has then.", BoundaryPlanRuns::howManyLetters)
            .holds("-1: i is not 0 .. 7", BoundaryPlanRuns::noCellForLetters)
            .holds("-4: it would have more than 24.", BoundaryPlanRuns::moreThan24)
            .end();
        Due.end();
    }

    // ---- a new object

    private static void newAndStable() {
        ShiftHouse x = new ShiftHouse();
        Due.is("the version", x.count(0), 0);
        Due.is("RUNNING", x.count(1), 0);
        Due.is("columns", x.count(2), 0);
        Due.is("next columns", x.count(3), 0);
        Due.is("rows", x.count(4), 0);
        Due.is("rows that LAG", x.count(5), 0);
        Due.is("SHADOWED rows", x.count(6), 0);
        Due.is("ACTIONS", x.count(7), 0);
        Due.is("finish", x.finish(), -2);
        Due.is("rollback", x.rollback(), -2);
        Due.is("column 0", x.column(0, false), -1);
        Due.is("more", x.more(0, true), 0);
        Due.is("read", x.read(0, false), 0);
        Due.is("remove", x.remove(0), -3);
    }

    private static void newPlan() {
        Due.is("steps", new ShiftHouse().count(8), 0);
        Due.is("scrap", new ShiftHouse().scrap(), 0);
        Due.is("begin", new ShiftHouse().begin(), -2);
    }

    private static void newDraft() {
        ShiftHouse x = new ShiftHouse();
        for (int i = 0; i < 8; i++) {
            Due.is("letters of cell " + i, x.letters(i, 0, 0), 0);
        }
        ShiftHouse y = Houses.withColumns(0, 1, 2, 3, 4, 3, 3, 4);
        y.write(1, false);
        Due.isRow("a row of it", y, 1, false, 0, 0, 0, 0, 0, 0, 0, 0);
    }

    private static void newSeen() {
        ShiftHouse x = new ShiftHouse();
        Due.is("seen", x.seen(), -1);
        Due.is("value", x.value(0), 0);
        Due.is("letter", x.letter(0, 0), 0);
    }

    private static void newAndUp() {
        ShiftHouse x = new ShiftHouse();
        Due.is("DOWN", x.isDown(), false);
        Due.is("restart", x.restart(), -2);
        for (int i = 0; i < 400; i++) {
            x.write(1, false);
        }
        Due.is("DOWN behind 400 ACTIONS", x.isDown(), false);
        Due.is("all are done", x.count(7), 400);
    }

    // ---- plan

    private static void behindTheOthers() {
        ShiftHouse x = new ShiftHouse();
        x.plan(ADD, 5, INT, 0, 0);
        x.plan(ADD, 4, TEXT, 0, 0);
        x.plan(RENAME, 5, 3, 0, 0);
        Due.is("begin", x.begin(), 2);
        Due.is("the first step's column", x.column(0, true), 8 * 3 + INT);
        Due.is("the second step's column", x.column(1, true), 8 * 4 + TEXT);
    }

    private static void planAdd() {
        for (int type = 0; type <= 4; type++) {
            ShiftHouse x = new ShiftHouse();
            x.write(1, false);
            Due.is("ADD of type " + type, x.plan(ADD, 63, type, 0x41424344, 0x8001), 1);
            x.begin();
            Due.is("its column", x.column(0, true), 504 + type);
            long[] want = {1, -32767, 0x8001, 0x4142434400008001L, 6};
            Due.isRow("its default", x, 1, true, want[type]);
        }
    }

    private static void planDrop() {
        ShiftHouse x = Houses.withColumns(INT, TEXT);
        Due.is("DROP", x.plan(DROP, 0, 0, 0, 0), 1);
        Due.is("begin", x.begin(), 1);
        Due.is("what is left", x.column(0, true), 8 + TEXT);
    }

    private static void planRename() {
        ShiftHouse x = Houses.withColumns(INT, TEXT);
        Due.is("RENAME 0 to 63", x.plan(RENAME, 0, 63, 0, 0), 1);
        Due.is("RENAME 1 to 0", x.plan(RENAME, 1, 0, 0, 0), 2);
        x.begin();
        Due.is("63", x.column(0, true), 504 + INT);
        Due.is("0", x.column(1, true), TEXT);
    }

    private static void planRetype() {
        ShiftHouse x = Houses.withColumns(INT, INT);
        Due.is("RETYPE to 4", x.plan(RETYPE, 1, TEXT, 0, 0), 1);
        Due.is("RETYPE to 0", x.plan(RETYPE, 0, Houses.FLAG, 0, 0), 2);
        x.begin();
        Due.is("a FLAG", x.column(0, true), 0);
        Due.is("a TEXT", x.column(1, true), 8 + TEXT);
    }

    private static void howManySteps() {
        ShiftHouse x = new ShiftHouse();
        for (int i = 1; i <= 6; i++) {
            Due.is("step " + i, x.plan(i % 4, i, i % 5, 0, 0), i);
            Due.is("count " + i, x.count(8), i);
        }
    }

    private static void noWhat() {
        ShiftHouse x = new ShiftHouse();
        int[] wrong = {-1, 4, 5, LEAST, GREATEST};
        for (int what : wrong) {
            Due.is("what " + what, x.plan(what, 1, 1, 0, 0), -1);
        }
        Due.is("no step", x.count(8), 0);
        Due.is("what 0", x.plan(0, 1, 1, 0, 0), 1);
        Due.is("what 3", x.plan(3, 1, 1, 0, 0), 2);
    }

    private static void noName() {
        ShiftHouse x = new ShiftHouse();
        int[] wrong = {-1, 64, LEAST, GREATEST};
        for (int what = 0; what <= 3; what++) {
            for (int name : wrong) {
                Due.is("what " + what + ", name " + name, x.plan(what, name, 1, 0, 0), -1);
            }
        }
        Due.is("no step", x.count(8), 0);
        for (int what = 0; what <= 3; what++) {
            ShiftHouse y = new ShiftHouse();
            Due.is("what " + what + ", name 0", y.plan(what, 0, 1, 0, 0), 1);
            Due.is("what " + what + ", name 63", y.plan(what, 63, 1, 0, 0), 2);
        }
    }

    private static void noOtherName() {
        ShiftHouse x = new ShiftHouse();
        int[] wrong = {-1, 64, LEAST, GREATEST};
        for (int other : wrong) {
            Due.is("to " + other, x.plan(RENAME, 1, other, 0, 0), -1);
        }
        Due.is("to 0", x.plan(RENAME, 1, 0, 0, 0), 1);
        Due.is("to 5, which is no type", x.plan(RENAME, 1, 5, 0, 0), 2);
        Due.is("to 63", x.plan(RENAME, 1, 63, 0, 0), 3);
    }

    private static void noType() {
        ShiftHouse x = new ShiftHouse();
        int[] wrong = {-1, 5, 63, LEAST, GREATEST};
        int[] kinds = {ADD, RETYPE};
        for (int what : kinds) {
            for (int type : wrong) {
                Due.is("what " + what + ", type " + type, x.plan(what, 1, type, 0, 0), -1);
            }
            Due.is("type 0", x.plan(what, 1, 0, 0, 0) > 0, true);
            Due.is("type 4", x.plan(what, 1, 4, 0, 0) > 0, true);
        }
        Due.is("four steps", x.count(8), 4);
    }

    private static void notLookedAt() {
        int[] any = {-1, 5, 64, LEAST, GREATEST};
        for (int other : any) {
            ShiftHouse x = Houses.withColumns(INT, INT, INT);
            Due.is("DROP", x.plan(DROP, 0, other, other, other), 1);
            Due.is("RENAME", x.plan(RENAME, 1, 20, other, other), 2);
            Due.is("RETYPE", x.plan(RETYPE, 2, 3, other, other), 3);
            Due.is("begin", x.begin(), 2);
            Due.is("RENAMED", x.column(0, true), 160 + INT);
            Due.is("RETYPED", x.column(1, true), 16 + Houses.LONG);
        }
    }

    private static void thereAreSix() {
        ShiftHouse x = new ShiftHouse();
        for (int name = 1; name <= 6; name++) {
            Due.is("step " + name, x.plan(ADD, name, INT, 0, 0), name);
        }
        Due.is("a seventh", x.plan(ADD, 7, INT, 0, 0), -4);
        Due.is("six still", x.count(8), 6);
        Due.is("begin", x.begin(), 6);
        Due.is("room behind begin", x.plan(ADD, 7, INT, 0, 0), 1);
        ShiftHouse y = new ShiftHouse();
        for (int i = 0; i < 6; i++) {
            y.plan(DROP, 1, 0, 0, 0);
        }
        y.scrap();
        Due.is("room behind scrap", y.plan(ADD, 7, INT, 0, 0), 1);
    }

    // ---- scrap

    private static void scrapped() {
        ShiftHouse x = new ShiftHouse();
        x.plan(DROP, 1, 0, 0, 0);
        x.scrap();
        Due.is("steps", x.count(8), 0);
        Due.is("begin", x.begin(), -2);
        x.plan(ADD, 2, INT, 0, 0);
        Due.is("a PLAN without the former step", x.begin(), 1);
    }

    private static void howManyItHad() {
        ShiftHouse x = new ShiftHouse();
        for (int steps = 0; steps <= 6; steps++) {
            for (int i = 0; i < steps; i++) {
                x.plan(DROP, i, 0, 0, 0);
            }
            Due.is("it had", x.scrap(), steps);
            Due.is("then none", x.scrap(), 0);
        }
        ShiftHouse y = Houses.runningWithKeys(1);
        Due.is("the migration's steps are none of it", y.scrap(), 0);
        y.plan(DROP, 1, 0, 0, 0);
        Due.is("while RUNNING", y.scrap(), 1);
        y.plan(DROP, 1, 0, 0, 0);
        y.plan(DROP, 2, 0, 0, 0);
        y.crash(1);
        y.write(1, false);
        Due.is("when DOWN", y.scrap(), 2);
    }

    // ---- draft

    private static void cellIs() {
        ShiftHouse x = Houses.withColumns(TEXT, 3, 3, 3, 3, 3, 3, TEXT);
        for (int i = 0; i < 8; i++) {
            x.letters(i, -1, -1);
            x.draft(i, 0, 0x41 + i);
        }
        x.draft(3, LEAST, GREATEST);
        x.write(1, false);
        Due.isRow("the cells", x, 1, false, 1, 0x42, 0x43, (long) LEAST * 4294967296L + GREATEST, 0x45, 0x46, 0x47, 1);
        Due.isText("cell 0", x, 0, "A");
        Due.isText("cell 7", x, 7, "H");
        for (int i = 0; i < 8; i++) {
            Due.is("letters of cell " + i, x.letters(i, 0, 0), 0);
        }
    }

    private static void draftAnswers() {
        ShiftHouse x = new ShiftHouse();
        Due.is("at first", x.draft(0, 0, 0), 1);
        Due.is("again", x.draft(0, 0, 0), 1);
        Due.is("the last cell", x.draft(7, LEAST, GREATEST), 1);
    }

    private static void noCellToDraft() {
        ShiftHouse x = new ShiftHouse();
        int[] wrong = {-1, 8, LEAST, GREATEST};
        for (int i : wrong) {
            Due.is("cell " + i, x.draft(i, 1, 1), -1);
        }
    }

    // ---- letters

    private static void lettersBehind() {
        ShiftHouse x = Houses.withColumns(TEXT, INT, INT, INT, INT, INT, INT, TEXT);
        x.letters(0, 0x41000042, 0x00430000);
        x.letters(0, 0, 0);
        x.letters(0, 0xFF000000, 0x01);
        x.letters(7, 0x61626364, 0x65666768);
        x.letters(7, 0x696A6B6C, 0x6D6E6F70);
        x.letters(7, 0x71727374, 0x75767778);
        x.write(1, false);
        x.read(1, false);
        Due.isText("cell 0", x, 0, "ABC\u00FF\u0001");
        Due.isText("cell 7", x, 7, "abcdefghijklmnopqrstuvwx");
    }

    private static void howManyLetters() {
        ShiftHouse x = new ShiftHouse();
        Due.is("none", x.letters(0, 0, 0), 0);
        Due.is("one", x.letters(0, 0, 1), 1);
        Due.is("none more", x.letters(0, 0, 0), 1);
        Due.is("eight more", x.letters(0, -1, -1), 9);
        Due.is("two more", x.letters(0, 0x01000000, 0x01), 11);
        Due.is("another cell", x.letters(7, 0x00800000, 0), 1);
    }

    private static void noCellForLetters() {
        ShiftHouse x = new ShiftHouse();
        int[] wrong = {-1, 8, LEAST, GREATEST};
        for (int i : wrong) {
            Due.is("cell " + i, x.letters(i, 1, 1), -1);
            Due.is("cell " + i + ", no characters", x.letters(i, 0, 0), -1);
        }
    }

    private static void moreThan24() {
        int[] rests = {0, 0x42, 0x4242, 0x424242};
        for (int had = 21; had <= 24; had++) {
            for (int more = 0; more <= 3; more++) {
                ShiftHouse x = Houses.withColumns(TEXT);
                String text = "A".repeat(had);
                Houses.lettersOf(x, 0, text);
                boolean isMore = had + more > 24;
                Due.is(had + " and " + more, x.letters(0, 0, rests[more]), isMore ? -4 : had + more);
                x.write(1, false);
                x.read(1, false);
                Due.isText(had + " and " + more, x, 0, isMore ? text : text + "B".repeat(more));
            }
        }
        onlyBytesThatAreNot0Count();
    }

    private static void onlyBytesThatAreNot0Count() {
        long[] letters = {1, 0x80, 0xFF};
        for (int shift = 0; shift < 64; shift += 8) {
            for (long letter : letters) {
                long v = letter << shift;
                ShiftHouse x = new ShiftHouse();
                Houses.lettersOf(x, 3, "A".repeat(23));
                Due.is("23 and " + v, x.letters(3, (int) (v >> 32), (int) v), 24);
                Due.is("24 and " + v, x.letters(3, (int) (v >> 32), (int) v), -4);
                Due.is("24 still", x.letters(3, 0, 0), 24);
            }
        }
    }
}
