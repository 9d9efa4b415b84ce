/** The parts of 'Terms' on schemas, migrations and the table, sentence by sentence. */
public final class BoundarySchemaRuns {
    private static final int FLAG = Houses.FLAG;
    private static final int SHORT = Houses.SHORT;
    private static final int INT = Houses.INT;
    private static final int LONG = Houses.LONG;
    private static final int TEXT = Houses.TEXT;
    private static final int ADD = Houses.ADD;
    private static final int DROP = Houses.DROP;
    private static final int RENAME = Houses.RENAME;
    private static final int RETYPE = Houses.RETYPE;

    public static void main(String[] args) {
        Part.between("==== A SCHEMA", "==== THE TABLE")
            .holds("A SCHEMA is a row of 0 to 8 COLUMNS, from 0", BoundarySchemaRuns::noneToEightColumns)
            .holds("with a NAME (0 .. 63, no two the same) and a TYPE each", BoundarySchemaRuns::namesAndTypes)
            .holds("A ROW of a schema has a value of each column's type, in order.", BoundarySchemaRuns::valuesInOrder)
            .holds("A MIGRATION is a row of 1 to 6 STEPS", BoundarySchemaRuns::oneToSixSteps)
            .holds("ADD name, type, default; DROP name; RENAME name to another one; RETYPE name to a type.",
                BoundarySchemaRuns::fourKinds)
            .holds("Step by step they make of a schema another one", BoundarySchemaRuns::stepByStep)
            .holds("a step is WRONG there if: ADD: a column has that name, or there are 8",
                BoundarySchemaRuns::wrongAdd)
            .holds("DROP, RENAME, RETYPE: no column has it", BoundarySchemaRuns::noSuchColumn)
            .holds("RENAME: a column has the other name (the same one, too)", BoundarySchemaRuns::wrongRename)
            .holds("RETYPE: its type can't become that one.", BoundarySchemaRuns::wrongRetype)
            .holds("ADD puts the column behind the others", BoundarySchemaRuns::addedBehind)
            .holds("DROP takes it out", BoundarySchemaRuns::droppedAnywhere)
            .holds("the others leave it where it stands.", BoundarySchemaRuns::othersLeaveIt)
            .holds("UP: a migration makes of a row of its first schema one of its last one, step by step: ADD puts the"
                + " default, DROP takes the value out, RETYPE puts what the value becomes.", BoundarySchemaRuns::up)
            .holds("DOWN makes of a row of its last schema one of its first one, with a row of the first schema (the"
                + " OLD one) at hand, or none", BoundarySchemaRuns::downWithAndWithoutOld)
            .holds("a column of the first schema that is DROPPED on the way gets the OLD row's value (the EMPTY one"
                + " without an OLD row)", BoundarySchemaRuns::droppedOnTheWay)
            .holds("each other one gets the value of the column that it is at last", BoundarySchemaRuns::columnAtLast)
            .holds("made back through its RETYPES, the last one first (by what can become what).",
                BoundarySchemaRuns::backThroughRetypes)
            .end();
        Part.between("==== THE TABLE", "==== THE DISK")
            .holds("THE TABLE has at most 40 rows", BoundarySchemaRuns::fortyRows)
            .holds("each under a KEY, an int.", BoundarySchemaRuns::anyKey)
            .holds("VERSIONS are numbered from 0; the first one's schema has no columns.",
                BoundarySchemaRuns::versionZero)
            .holds("It is STABLE in a version, THE SCHEMA being that version's", BoundarySchemaRuns::stable)
            .holds("or a migration is RUNNING: then THE SCHEMA is still that of the version before, and THE NEXT SCHEMA"
                + " what the migration makes of it.", BoundarySchemaRuns::running)
            .holds("While it is RUNNING each row has two forms: the PRIOR one of THE SCHEMA, and the NEW one of THE"
                + " NEXT SCHEMA; otherwise it has just one, of THE SCHEMA.", BoundarySchemaRuns::twoForms)
            .holds("begin(): each row's NEW form is what UP makes of it.", BoundarySchemaRuns::begunRows)
            .holds("A row that is written in THE SCHEMA then has that as its PRIOR form, and what UP makes of it as its"
                + " NEW one", BoundarySchemaRuns::writtenInTheSchema)
            .holds("one that is written in THE NEXT SCHEMA has that as its NEW form, and what DOWN makes of it (the"
                + " PRIOR form that was under the key before being the OLD row, if there was one) as its PRIOR one.",
                BoundarySchemaRuns::writtenInTheNextSchema)
            .holds("finish(): the NEW forms are the rows, in the next version.", BoundarySchemaRuns::finished)
            .holds("rollback(): the PRIOR forms are the rows, the version and THE SCHEMA are what they were before"
                + " begin().", BoundarySchemaRuns::rolledBack)
            .end();
        Due.end();
    }

    private static void columnsAre(String when, ShiftHouse x, boolean next, int... want) {
        Due.is(when + ": how many", x.count(next ? 3 : 2), want.length);
        for (int i = 0; i < want.length; i++) {
            Due.is(when + ": column " + i, x.column(i, next), want[i]);
        }
        Due.is(when + ": behind the last", x.column(want.length, next), -1);
    }

    // ---- schemas and migrations

    private static void noneToEightColumns() {
        columnsAre("none", new ShiftHouse(), false);
        ShiftHouse x = Houses.withColumns(0, 1, 2, 3, 4, 3, 2, 1);
        columnsAre("eight", x, false, 0, 9, 18, 27, 36, 43, 50, 57);
        x.write(1, false);
        x.read(1, false);
        Due.is("eight values", x.seen(), 8);
        x.plan(ADD, 8, INT, 0, 0);
        Due.is("a ninth", x.begin(), -10);
        x.scrap();
        for (int name = 0; name < 6; name++) {
            x.plan(DROP, name, 0, 0, 0);
        }
        Due.is("two are left", x.begin(), 2);
        x.finish();
        x.plan(DROP, 6, 0, 0, 0);
        x.plan(DROP, 7, 0, 0, 0);
        Due.is("none is left", x.begin(), 0);
        columnsAre("none again", x, true);
        x.finish();
        Due.isRow("a row without values", x, 1, false);
    }

    private static void namesAndTypes() {
        ShiftHouse x = new ShiftHouse();
        x.plan(ADD, 63, TEXT, 0, 0);
        x.plan(ADD, 0, FLAG, 0, 0);
        Due.is("names 63 and 0", x.begin(), 2);
        columnsAre("names 63 and 0", x, true, 508, 0);
        x.finish();
        x.plan(ADD, 63, TEXT, 0, 0);
        Due.is("63 again", x.begin(), -10);
        x.scrap();
        x.plan(RENAME, 0, 63, 0, 0);
        Due.is("0 to 63", x.begin(), -10);
    }

    private static void valuesInOrder() {
        ShiftHouse x = Houses.withColumns(TEXT, FLAG, LONG, SHORT);
        x.draft(0, 0, 0x4142);
        x.draft(1, 0, 3);
        x.draft(2, 1, 0);
        x.draft(3, 1, 0x18000);
        x.draft(4, 5, 5);
        x.write(1, false);
        Due.isRow("a row", x, 1, false, 2, 1, 1L << 32, -32768);
        Due.isText("its TEXT", x, 0, "AB");
    }

    private static void oneToSixSteps() {
        ShiftHouse x = new ShiftHouse();
        Due.is("no step", x.begin(), -2);
        x.plan(ADD, 0, INT, 0, 0);
        Due.is("one step", x.begin(), 1);
        x.rollback();
        for (int name = 0; name < 6; name++) {
            Due.is("step " + name, x.plan(ADD, name, INT, 0, name), name + 1);
        }
        Due.is("a seventh", x.plan(ADD, 6, INT, 0, 0), -4);
        x.write(1, false);
        Due.is("six steps", x.begin(), 6);
        Due.isRow("all six are done", x, 1, true, 0, 1, 2, 3, 4, 5);
    }

    private static void fourKinds() {
        ShiftHouse x = Houses.withColumns(INT, INT);
        x.draft(0, 0, 5);
        x.draft(1, 0, 6);
        x.write(1, false);
        x.plan(ADD, 7, SHORT, 0, -2);
        x.plan(DROP, 0, 0, 0, 0);
        x.plan(RENAME, 1, 40, 0, 0);
        x.plan(RETYPE, 40, LONG, 0, 0);
        Due.is("begin", x.begin(), 2);
        columnsAre("all four", x, true, 8 * 40 + LONG, 8 * 7 + SHORT);
        Due.isRow("all four", x, 1, true, 6, -2);
    }

    private static void stepByStep() {
        ShiftHouse x = Houses.withColumns(SHORT);
        x.plan(RETYPE, 0, INT, 0, 0);
        x.plan(RETYPE, 0, TEXT, 0, 0);
        x.plan(RENAME, 0, 1, 0, 0);
        x.plan(ADD, 0, FLAG, 0, 0);
        x.plan(DROP, 1, 0, 0, 0);
        x.plan(RENAME, 0, 1, 0, 0);
        Due.is("each step sees those before it", x.begin(), 1);
        columnsAre("at last", x, true, 8 + FLAG);
        x.rollback();
        columnsAre("at first", x, false, SHORT);
    }

    /** The step is the WRONG one: alone, and behind three that are not. */
    private static void isWrong(int what, int name, int other, int... types) {
        String call = "step " + what + " of " + name + " to " + other;
        ShiftHouse x = Houses.withColumns(types);
        x.plan(what, name, other, 0, 0);
        Due.is(call, x.begin(), -10);
        Due.is(call + " RUNS", x.count(1), 0);
        x.scrap();
        x.plan(DROP, 0, 0, 0, 0);
        x.plan(ADD, 0, types[0], 0, 0);
        x.plan(RENAME, 0, 62, 0, 0);
        x.plan(RENAME, 62, 0, 0, 0);
        x.plan(what, name, other, 0, 0);
        x.plan(DROP, 61, 0, 0, 0);
        Due.is(call + " behind four others", x.begin(), -14);
    }

    private static void wrongAdd() {
        isWrong(ADD, 0, INT, INT);
        isWrong(ADD, 1, TEXT, INT, INT);
        isWrong(ADD, 50, INT, INT, INT, INT, INT, INT, INT, INT, INT);
        isWrong(ADD, 7, INT, INT, INT, INT, INT, INT, INT, INT, INT);
        ShiftHouse x = Houses.withColumns(2, 2, 2, 2, 2, 2, 2);
        x.plan(ADD, 50, INT, 0, 0);
        Due.is("there were seven", x.begin(), 8);
        x.finish();
        x.plan(DROP, 3, 0, 0, 0);
        x.plan(ADD, 3, TEXT, 0, 0);
        x.plan(ADD, 51, TEXT, 0, 0);
        Due.is("eight again ahead of the third step", x.begin(), -12);
    }

    private static void noSuchColumn() {
        int[] kinds = {DROP, RENAME, RETYPE};
        for (int what : kinds) {
            isWrong(what, 1, LONG, INT);
            isWrong(what, 63, LONG, INT);
            ShiftHouse x = new ShiftHouse();
            x.plan(what, 0, INT, 0, 0);
            Due.is("step " + what + " without columns", x.begin(), -10);
            x = Houses.withColumns(INT, INT);
            x.plan(DROP, 1, 0, 0, 0);
            x.plan(what, 1, LONG, 0, 0);
            Due.is("step " + what + " of a DROPPED one", x.begin(), -11);
            x = Houses.withColumns(INT);
            x.plan(RENAME, 0, 9, 0, 0);
            x.plan(what, 0, LONG, 0, 0);
            Due.is("step " + what + " of a name before", x.begin(), -11);
        }
    }

    private static void wrongRename() {
        isWrong(RENAME, 0, 0, INT);
        isWrong(RENAME, 0, 1, INT, INT);
        isWrong(RENAME, 1, 0, INT, INT);
        isWrong(RENAME, 1, 1, INT, INT);
        ShiftHouse x = Houses.withColumns(INT, INT);
        x.plan(DROP, 1, 0, 0, 0);
        x.plan(RENAME, 0, 1, 0, 0);
        Due.is("to a name that is free now", x.begin(), 1);
    }

    private static void wrongRetype() {
        isWrong(RETYPE, 0, INT, INT);
        isWrong(RETYPE, 0, TEXT, SHORT);
        isWrong(RETYPE, 1, FLAG, INT, TEXT);
        ShiftHouse x = Houses.withColumns(FLAG);
        x.plan(RETYPE, 0, INT, 0, 0);
        x.plan(RETYPE, 0, TEXT, 0, 0);
        Due.is("a FLAG by way of INT", x.begin(), 1);
    }

    private static void addedBehind() {
        ShiftHouse x = Houses.withColumns(INT, INT);
        x.plan(ADD, 60, FLAG, 0, 0);
        x.plan(DROP, 0, 0, 0, 0);
        x.plan(ADD, 0, TEXT, 0, 0);
        x.begin();
        columnsAre("ADDED", x, true, 8 + INT, 480 + FLAG, TEXT);
    }

    private static void droppedAnywhere() {
        int[][] left = {{10, 18, 26}, {2, 18, 26}, {2, 10, 26}, {2, 10, 18}};
        for (int name = 0; name < 4; name++) {
            ShiftHouse x = Houses.withColumns(INT, INT, INT, INT);
            for (int i = 0; i < 4; i++) {
                x.draft(i, 0, 10 + i);
            }
            x.write(1, false);
            x.plan(DROP, name, 0, 0, 0);
            x.begin();
            columnsAre("without " + name, x, true, left[name]);
            x.read(1, true);
            for (int i = 0; i < 3; i++) {
                Due.is("its value " + i, x.value(i), i < name ? 10 + i : 11 + i);
            }
        }
    }

    private static void othersLeaveIt() {
        ShiftHouse x = Houses.withColumns(INT, INT, INT);
        x.plan(RENAME, 0, 63, 0, 0);
        x.plan(RETYPE, 1, LONG, 0, 0);
        x.plan(RENAME, 2, 0, 0, 0);
        x.begin();
        columnsAre("RENAME and RETYPE", x, true, 504 + INT, 8 + LONG, INT);
    }

    private static void up() {
        ShiftHouse x = Houses.withColumns(LONG, TEXT, LONG);
        x.draft(0, 1, 0);
        Houses.lettersOf(x, 1, "-40000");
        x.draft(2, 0, 7);
        x.write(1, false);
        x.plan(RETYPE, 0, SHORT, 0, 0);
        x.plan(RETYPE, 0, INT, 0, 0);
        x.plan(ADD, 5, INT, 0, 123);
        x.plan(RETYPE, 5, TEXT, 0, 0);
        x.plan(RETYPE, 1, INT, 0, 0);
        x.plan(DROP, 2, 0, 0, 0);
        x.begin();
        Due.isRow("UP", x, 1, true, 32767, -40000, 3);
        Due.isText("the default as TEXT", x, 2, "123");
    }

    private static void downWithAndWithoutOld() {
        ShiftHouse x = Houses.withColumns(INT, INT);
        x.draft(0, 0, 5);
        x.draft(1, 0, 6);
        x.write(1, false);
        x.write(3, false);
        x.plan(DROP, 0, 0, 0, 0);
        x.begin();
        x.draft(0, 0, 60);
        Due.is("an OLD row", x.write(1, true), 1);
        Due.isRow("with it", x, 1, false, 5, 60);
        Due.is("no OLD row", x.write(2, true), 0);
        Due.isRow("without it", x, 2, false, 0, 60);
        x.remove(3);
        Due.is("a removed row", x.write(3, true), 0);
        Due.isRow("is no OLD row", x, 3, false, 0, 60);
        downOfEightColumnsBySixSteps();
    }

    private static void downOfEightColumnsBySixSteps() {
        ShiftHouse x = Houses.withColumns(INT, INT, INT, INT, INT, INT, INT, INT);
        for (int i = 0; i < 8; i++) {
            x.draft(i, 0, 10 + i);
        }
        x.write(1, false);
        x.plan(RETYPE, 7, SHORT, 0, 0);
        x.plan(DROP, 0, 0, 0, 0);
        x.plan(RENAME, 6, 0, 0, 0);
        x.plan(ADD, 60, INT, 0, 0);
        x.plan(RETYPE, 7, TEXT, 0, 0);
        Due.is("a SHORT can't become a TEXT", x.begin(), -14);
        x.scrap();
        x.plan(RETYPE, 7, SHORT, 0, 0);
        x.plan(DROP, 0, 0, 0, 0);
        x.plan(RENAME, 6, 0, 0, 0);
        x.plan(ADD, 60, INT, 0, 0);
        x.plan(RETYPE, 7, LONG, 0, 0);
        x.plan(RETYPE, 7, TEXT, 0, 0);
        Due.is("eight columns, six steps", x.begin(), 8);
        for (int i = 0; i < 8; i++) {
            x.draft(i, 0, 20 + i);
        }
        Houses.lettersOf(x, 6, "-99999");
        x.write(1, true);
        Due.isRow("DOWN with an OLD row", x, 1, false, 10, 20, 21, 22, 23, 24, 25, -32768);
        x.write(2, true);
        Due.isRow("DOWN without one", x, 2, false, 0, 20, 21, 22, 23, 24, 25, -32768);
    }

    private static void droppedOnTheWay() {
        ShiftHouse x = Houses.withColumns(LONG, TEXT, INT);
        x.draft(0, 1, 2);
        Houses.lettersOf(x, 1, "text");
        x.draft(2, 0, 9);
        x.write(1, false);
        x.plan(RETYPE, 0, FLAG, 0, 0);
        x.plan(RENAME, 0, 30, 0, 0);
        x.plan(DROP, 30, 0, 0, 0);
        x.plan(DROP, 1, 0, 0, 0);
        x.plan(ADD, 1, TEXT, 0, 0x5A);
        x.begin();
        x.draft(0, 0, 90);
        x.draft(1, 0, 0x59);
        x.write(1, true);
        Due.isRow("OLD values, as they were", x, 1, false, (1L << 32) + 2, 4, 90);
        Due.isText("not the new column's of that name", x, 1, "text");
        x.write(1, true);
        Due.isRow("and again", x, 1, false, (1L << 32) + 2, 4, 90);
        x.write(2, true);
        Due.isRow("EMPTY values", x, 2, false, 0, 0, 90);
        Due.isText("no characters", x, 1, "");
    }

    private static void columnAtLast() {
        ShiftHouse x = Houses.withColumns(INT, INT, INT);
        x.plan(RENAME, 0, 50, 0, 0);
        x.plan(RENAME, 2, 0, 0, 0);
        x.plan(DROP, 1, 0, 0, 0);
        x.plan(RENAME, 0, 1, 0, 0);
        x.plan(ADD, 2, INT, 0, 0);
        x.begin();
        columnsAre("at last", x, true, 400 + INT, 8 + INT, 16 + INT);
        x.draft(0, 0, 70);
        x.draft(1, 0, 71);
        x.draft(2, 0, 72);
        x.write(1, true);
        Due.isRow("by the column, not by its name", x, 1, false, 70, 0, 71);
    }

    private static void backThroughRetypes() {
        ShiftHouse x = Houses.withColumns(SHORT, LONG, TEXT);
        x.plan(RETYPE, 0, INT, 0, 0);
        x.plan(RETYPE, 0, TEXT, 0, 0);
        x.plan(RETYPE, 0, LONG, 0, 0);
        x.plan(RETYPE, 1, TEXT, 0, 0);
        x.plan(RETYPE, 2, INT, 0, 0);
        x.begin();
        x.draft(0, 0, 32768);
        Houses.lettersOf(x, 1, "-12");
        x.draft(2, -1, -5);
        x.write(1, true);
        Due.isRow("made back", x, 1, false, 32767, -12, 2);
        Due.isText("an INT as TEXT", x, 2, "-5");
        x.draft(0, Integer.MAX_VALUE, -1);
        Houses.lettersOf(x, 1, "1x");
        x.write(1, true);
        Due.isRow("19 digits tell no number by way of TEXT", x, 1, false, 0, 0, 2);
        x.rollback();
        x.plan(RETYPE, 1, FLAG, 0, 0);
        x.plan(RETYPE, 1, LONG, 0, 0);
        x.begin();
        x.draft(1, 0, 500);
        x.write(1, true);
        Due.isRow("by way of FLAG", x, 1, false, -1, 1, 8);
    }

    // ---- the table

    private static void fortyRows() {
        ShiftHouse x = new ShiftHouse();
        for (int i = 0; i < 40; i++) {
            Due.is("row " + i, x.write(i, false), 0);
        }
        Due.is("a 41st", x.write(40, false), -4);
        Due.is("forty", x.count(4), 40);
        Due.is("all forty have keys", x.more(-1, false), 40);
        for (int i = 0; i < 40; i++) {
            Due.is("row " + i + " again", x.write(i, false), 1);
        }
    }

    private static void anyKey() {
        int[] keys = {0, -1, 1, Integer.MAX_VALUE, Integer.MIN_VALUE, Integer.MAX_VALUE - 1, Integer.MIN_VALUE + 1};
        ShiftHouse x = Houses.withKeys(keys);
        Due.is("rows", x.count(4), keys.length);
        for (int key : keys) {
            Due.isRow("under its key", x, key, false, key);
        }
        for (int key : keys) {
            Due.is("remove of " + key, x.remove(key), 1);
            Due.is("it is gone", x.read(key, false), 0);
        }
    }

    private static void versionZero() {
        ShiftHouse x = new ShiftHouse();
        Due.is("the first version", x.count(0), 0);
        columnsAre("its schema", x, false);
        x.write(1, false);
        Due.isRow("its rows", x, 1, false);
        x.plan(ADD, 1, INT, 0, 0);
        x.begin();
        Due.is("the second version", x.finish(), 1);
    }

    private static void stable() {
        ShiftHouse x = new ShiftHouse();
        for (int version = 1; version <= 3; version++) {
            x.plan(ADD, version, INT, 0, 0);
            x.begin();
            x.finish();
            Due.is("the version", x.count(0), version);
            Due.is("RUNNING", x.count(1), 0);
            Due.is("THE SCHEMA", x.count(2), version);
            Due.is("no next one", x.count(3), 0);
        }
    }

    private static void running() {
        ShiftHouse x = Houses.withColumns(INT);
        x.plan(RETYPE, 0, TEXT, 0, 0);
        x.plan(ADD, 1, FLAG, 0, 0);
        x.begin();
        Due.is("RUNNING", x.count(1), 1);
        Due.is("the version before", x.count(0), 1);
        columnsAre("THE SCHEMA", x, false, INT);
        columnsAre("THE NEXT SCHEMA", x, true, TEXT, 8 + FLAG);
    }

    private static void twoForms() {
        ShiftHouse x = Houses.runningWithKeys(1);
        Due.isRow("PRIOR", x, 1, false, 1);
        Due.isRow("NEW", x, 1, true, 1, 7);
        x.write(2, false);
        Due.isRow("PRIOR of a new row", x, 2, false, 1);
        Due.isRow("NEW of a new row", x, 2, true, 1, 7);
        x.finish();
        Due.isRow("just one", x, 1, false, 1, 7);
        Due.is("no other", x.read(1, true), -2);
    }

    private static void begunRows() {
        ShiftHouse x = new ShiftHouse();
        for (int i = 0; i < 40; i++) {
            x.write(i, false);
        }
        x.plan(ADD, 1, LONG, 3, 4);
        x.begin();
        for (int i = 0; i < 40; i++) {
            Due.isRow("NEW", x, i, true, 3L * (1L << 32) + 4);
        }
        x.finish();
        x.plan(RETYPE, 1, FLAG, 0, 0);
        x.begin();
        for (int i = 0; i < 40; i++) {
            Due.isRow("NEW of the next migration", x, i, true, 1);
            Due.isRow("PRIOR as it was", x, i, false, 3L * (1L << 32) + 4);
        }
    }

    private static void writtenInTheSchema() {
        ShiftHouse x = Houses.withColumns(LONG);
        x.plan(RETYPE, 0, SHORT, 0, 0);
        x.begin();
        x.draft(0, 1, 0);
        x.write(1, false);
        Due.isRow("PRIOR", x, 1, false, 1L << 32);
        Due.isRow("NEW", x, 1, true, 32767);
        x.draft(0, 0, 5);
        x.write(1, true);
        x.draft(0, -1, 0);
        x.write(1, false);
        Due.isRow("PRIOR again", x, 1, false, -(1L << 32));
        Due.isRow("NEW again", x, 1, true, -32768);
    }

    private static void writtenInTheNextSchema() {
        ShiftHouse x = Houses.withColumns(LONG, INT);
        x.draft(0, 1, 1);
        x.draft(1, 0, 2);
        x.write(1, false);
        x.plan(DROP, 1, 0, 0, 0);
        x.plan(RETYPE, 0, TEXT, 0, 0);
        x.begin();
        Houses.lettersOf(x, 0, "0099");
        x.write(1, true);
        x.read(1, true);
        Due.isText("NEW as it is written", x, 0, "0099");
        Due.isRow("PRIOR", x, 1, false, 99, 2);
        x.draft(0, 0, 3);
        x.draft(1, 0, 4);
        x.write(1, false);
        x.write(1, true);
        Due.isRow("the latest PRIOR form is the OLD row", x, 1, false, 0, 4);
        x.write(2, true);
        Due.isRow("no PRIOR form", x, 2, false, 0, 0);
    }

    private static void finished() {
        ShiftHouse x = Houses.runningWithKeys(1, 2, 3);
        x.draft(0, 0, 20);
        x.draft(1, 0, 21);
        x.write(2, true);
        x.write(3, false);
        Due.is("the next version", x.finish(), 2);
        Due.isRow("not written since", x, 1, false, 1, 7);
        Due.isRow("written in THE NEXT SCHEMA", x, 2, false, 20, 21);
        Due.isRow("written in THE SCHEMA", x, 3, false, 20, 7);
        columnsAre("THE SCHEMA", x, false, LONG, 72 + INT);
    }

    private static void rolledBack() {
        ShiftHouse x = Houses.runningWithKeys(1, 2, 3);
        x.draft(0, 0, 20);
        x.draft(1, 0, 21);
        x.write(2, true);
        x.write(3, false);
        x.write(4, true);
        Due.is("the version before", x.rollback(), 1);
        Due.is("and still", x.count(0), 1);
        Due.isRow("not written since", x, 1, false, 1);
        Due.isRow("written in THE NEXT SCHEMA", x, 2, false, 20);
        Due.isRow("written in THE SCHEMA", x, 3, false, 20);
        Due.isRow("written anew", x, 4, false, 20);
        columnsAre("THE SCHEMA", x, false, LONG);
        Due.is("rollback in version 0", rolledBackInVersionZero(), 0);
    }

    private static int rolledBackInVersionZero() {
        ShiftHouse x = new ShiftHouse();
        x.plan(ADD, 1, INT, 0, 0);
        x.begin();
        return x.rollback();
    }
}
