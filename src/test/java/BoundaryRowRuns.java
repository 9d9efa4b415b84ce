/** Promises 6 to 13, sentence by sentence: write, remove, read, seen, value, letter, next, more. */
public final class BoundaryRowRuns {
    private static final int INT = Houses.INT;
    private static final int LONG = Houses.LONG;
    private static final int TEXT = Houses.TEXT;
    private static final int LEAST = Integer.MIN_VALUE;
    private static final int GREATEST = Integer.MAX_VALUE;

    public static void main(String[] args) {
        Part.promise(6)
            .holds("The row under a key is the DRAFT, in THE SCHEMA, or (next) in THE NEXT SCHEMA.",
                BoundaryRowRuns::rowIsTheDraft)
            .holds("Answers 1 if there was a row before, else 0.", BoundaryRowRuns::writeAnswers)
            .holds("-8: DOWN", () -> Due.is("write", down().write(1, false), -8))
            .holds("-2: next, and no migration is RUNNING", BoundaryRowRuns::writeNextOfNone)
            .holds("-4: there was none, and there are 40 rows", BoundaryRowRuns::fortyRows)
            .holds("-9", BoundaryRowRuns::writeCrashes)
            .end();
        Part.promise(7)
            .holds("There is no row under a key any more.", BoundaryRowRuns::noRowAnyMore)
            .holds("Answers 1.", () -> Due.is("remove", Houses.withKeys(LEAST).remove(LEAST), 1))
            .holds("-8", () -> Due.is("remove", down().remove(1), -8))
            .holds("-3: there is none", BoundaryRowRuns::removeOfNone)
            .holds("-9", BoundaryRowRuns::removeCrashes)
            .end();
        Part.promise(8)
            .holds("SEEN is the row under a key, in THE SCHEMA, or (next) in THE NEXT SCHEMA",
                BoundaryRowRuns::seenIsARow)
            .holds("nothing, if there is none.", BoundaryRowRuns::seenIsNothing)
            .holds("Answers 1, 0 if there is none.", BoundaryRowRuns::readAnswers)
            .holds("-8", () -> Due.is("read", down().read(1, false), -8))
            .holds("-2: next, and no migration is RUNNING.", BoundaryRowRuns::readNextOfNone)
            .end();
        Part.promise(9)
            .holds("How many values SEEN has", BoundaryRowRuns::howManyValues)
            .holds("-1 if nothing is SEEN.", BoundaryRowRuns::nothingSeen)
            .holds("(SEEN is not on the disk, and stays whatever crashes.)", BoundaryRowRuns::seenStays)
            .end();
        Part.promise(10)
            .holds("The number of value i of SEEN", BoundaryRowRuns::numbers)
            .holds("of a TEXT how many characters.", BoundaryRowRuns::lengths)
            .holds("0 if there is none such.", BoundaryRowRuns::noSuchValue)
            .end();
        Part.promise(11)
            .holds("Character j of value i of SEEN, a TEXT", BoundaryRowRuns::characters)
            .holds("0 if there is none such.", BoundaryRowRuns::noSuchCharacter)
            .end();
        Part.promise(12)
            .holds("The least key above k under which there is a row", BoundaryRowRuns::leastAbove)
            .holds("(of all keys, if isFirst)", BoundaryRowRuns::leastOfAll)
            .holds("if there is none, k.", BoundaryRowRuns::noneAbove)
            .holds("0 when DOWN.", BoundaryRowRuns::nextWhenDown)
            .end();
        Part.promise(13)
            .holds("How many keys above k", BoundaryRowRuns::howManyAbove)
            .holds("(of all, if isFirst) have rows.", BoundaryRowRuns::howManyOfAll)
            .holds("-8", BoundaryRowRuns::moreWhenDown)
            .end();
        Due.end();
    }

    /** DOWN with rows under 1 and 2. */
    private static ShiftHouse down() {
        ShiftHouse x = Houses.withKeys(1, 2);
        x.crash(1);
        x.write(1, false);
        return x;
    }

    // ---- write

    private static void rowIsTheDraft() {
        ShiftHouse x = Houses.runningWithKeys(1);
        x.draft(0, 0, 5);
        x.draft(1, 0, 6);
        x.write(LEAST, false);
        x.write(GREATEST, true);
        Due.isRow("in THE SCHEMA", x, LEAST, false, 5);
        Due.isRow("in THE NEXT SCHEMA", x, GREATEST, true, 5, 6);
        x.draft(0, 0, 8);
        Due.isRow("a later DRAFT is apart", x, LEAST, false, 5);
        x.write(LEAST, true);
        Due.isRow("written over", x, LEAST, true, 8, 6);
    }

    private static void writeAnswers() {
        ShiftHouse x = new ShiftHouse();
        int[] keys = {0, LEAST, GREATEST, -1};
        for (int key : keys) {
            Due.is("anew", x.write(key, false), 0);
            Due.is("over", x.write(key, false), 1);
            x.remove(key);
            Due.is("anew again", x.write(key, false), 0);
        }
        ShiftHouse y = Houses.runningWithKeys(1);
        Due.is("over, next", y.write(1, true), 1);
        Due.is("anew, next", y.write(2, true), 0);
        Due.is("over, in THE SCHEMA", y.write(2, false), 1);
    }

    private static void writeNextOfNone() {
        ShiftHouse x = Houses.withKeys(1);
        Due.is("over", x.write(1, true), -2);
        Due.is("anew", x.write(2, true), -2);
        Due.is("no row", x.count(4), 1);
        x = Houses.runningWithKeys(1);
        Due.is("RUNNING", x.write(1, true), 1);
        x.rollback();
        Due.is("rolled back", x.write(1, true), -2);
        x = Houses.runningWithKeys(1);
        x.finish();
        Due.is("finished", x.write(1, true), -2);
    }

    private static void fortyRows() {
        ShiftHouse x = new ShiftHouse();
        for (int i = 0; i < 40; i++) {
            Due.is("row " + i, x.write(i * 3, false), 0);
        }
        int[] none = {1, -1, 120, LEAST, GREATEST};
        for (int key : none) {
            Due.is("none under " + key, x.write(key, false), -4);
        }
        Due.is("no ACTION", x.count(9), 0);
        Due.is("one of them", x.write(117, false), 1);
        x.remove(0);
        Due.is("39 rows", x.write(GREATEST, false), 0);
        Due.is("40 again", x.write(0, false), -4);
        x.plan(Houses.ADD, 1, INT, 0, 0);
        x.begin();
        Due.is("RUNNING", x.write(0, false), -4);
        Due.is("RUNNING, next", x.write(0, true), -4);
        Due.is("RUNNING, one of them", x.write(GREATEST, true), 1);
    }

    private static void writeCrashes() {
        ShiftHouse x = Houses.withKeys(1);
        x.crash(1);
        Due.is("STABLE", x.write(1, false), -9);
        Due.is("DOWN", x.isDown(), true);
        x = Houses.runningWithKeys(1);
        x.crash(4);
        Due.is("RUNNING", x.write(1, true), -9);
        Due.is("DOWN too", x.isDown(), true);
    }

    // ---- remove

    private static void noRowAnyMore() {
        ShiftHouse x = Houses.withKeys(LEAST, -1, 0, 1, GREATEST);
        int[] keys = {0, LEAST, GREATEST, -1, 1};
        for (int i = 0; i < keys.length; i++) {
            x.remove(keys[i]);
            Due.is("read", x.read(keys[i], false), 0);
            Due.is("rows", x.count(4), 4 - i);
        }
        ShiftHouse y = Houses.runningWithKeys(1, 2);
        y.remove(1);
        Due.is("no PRIOR form", y.read(1, false), 0);
        Due.is("no NEW form", y.read(1, true), 0);
        y.finish();
        Due.is("nor behind finish", y.read(1, false), 0);
        Due.isRow("the other one", y, 2, false, 2, 7);
    }

    private static void removeOfNone() {
        Due.is("of no rows", new ShiftHouse().remove(0), -3);
        ShiftHouse x = Houses.withKeys(1, 3);
        int[] none = {0, 2, 4, LEAST, GREATEST};
        for (int key : none) {
            Due.is("under " + key, x.remove(key), -3);
        }
        x.remove(1);
        Due.is("twice", x.remove(1), -3);
        Due.is("ACTIONS", x.count(9), 0);
    }

    private static void removeCrashes() {
        ShiftHouse x = Houses.withKeys(1);
        x.crash(1);
        Due.is("STABLE", x.remove(1), -9);
        x = Houses.runningWithKeys(1);
        x.crash(4);
        Due.is("RUNNING", x.remove(1), -9);
        x = Houses.runningWithKeys(1);
        x.write(1, true);
        x.finish();
        x.crash(2);
        Due.is("SHADOWED", x.remove(1), -9);
    }

    // ---- read, seen

    private static void seenIsARow() {
        ShiftHouse x = Houses.runningWithKeys(LEAST, 5, GREATEST);
        int[] keys = {LEAST, 5, GREATEST};
        for (int key : keys) {
            Due.isRow("in THE SCHEMA", x, key, false, key);
            Due.isRow("in THE NEXT SCHEMA", x, key, true, key, 7);
        }
    }

    private static void seenIsNothing() {
        ShiftHouse x = Houses.withKeys(1);
        x.read(1, false);
        Due.is("a row", x.seen(), 1);
        x.read(2, false);
        Due.is("none", x.seen(), -1);
        Due.is("no value", x.value(0), 0);
        Due.is("no rows at all", new ShiftHouse().read(0, false), 0);
    }

    private static void readAnswers() {
        ShiftHouse x = Houses.runningWithKeys(1, 3);
        int[] none = {0, 2, 4, LEAST, GREATEST};
        for (int key : none) {
            Due.is("none under " + key, x.read(key, false), 0);
            Due.is("none under " + key + ", next", x.read(key, true), 0);
        }
        Due.is("there is one", x.read(3, false), 1);
        Due.is("there is one, next", x.read(1, true), 1);
    }

    private static void readNextOfNone() {
        ShiftHouse x = Houses.withKeys(1);
        x.read(1, false);
        Due.is("a row", x.read(1, true), -2);
        Due.is("none", x.read(2, true), -2);
        Due.is("SEEN is as before", x.seen(), 1);
        x = Houses.runningWithKeys(1);
        x.finish();
        Due.is("finished", x.read(1, true), -2);
        x = Houses.runningWithKeys(1);
        x.rollback();
        Due.is("rolled back", x.read(1, true), -2);
    }

    private static void howManyValues() {
        ShiftHouse none = new ShiftHouse();
        none.write(1, false);
        none.read(1, false);
        Due.is("no columns", none.seen(), 0);
        ShiftHouse eight = Houses.withColumns(0, 1, 2, 3, 4, 0, 1, 2);
        eight.write(1, false);
        eight.read(1, false);
        Due.is("eight columns", eight.seen(), 8);
        eight.plan(Houses.DROP, 3, 0, 0, 0);
        eight.begin();
        Due.is("still the row that was read", eight.seen(), 8);
        eight.read(1, true);
        Due.is("seven columns", eight.seen(), 7);
    }

    private static void nothingSeen() {
        ShiftHouse x = Houses.withKeys(1);
        Due.is("at first", x.seen(), -1);
        x.read(2, false);
        Due.is("no row", x.seen(), -1);
        x.read(1, false);
        x.read(1, true);
        Due.is("a refused read leaves SEEN", x.seen(), 1);
    }

    private static void seenStays() {
        ShiftHouse x = Houses.withColumns(INT, TEXT);
        x.draft(0, 0, 5);
        Houses.lettersOf(x, 1, "abc");
        x.write(1, false);
        x.read(1, false);
        x.draft(0, 0, 6);
        x.draft(1, 0, 0);
        x.write(1, false);
        x.remove(1);
        x.crash(1);
        x.write(1, false);
        Due.is("values when DOWN", x.seen(), 2);
        Due.is("a value when DOWN", x.value(0), 5);
        Due.isText("a TEXT when DOWN", x, 1, "abc");
        Due.is("a refused read", x.read(2, false), -8);
        x.restart();
        x.plan(Houses.RETYPE, 1, INT, 0, 0);
        x.plan(Houses.DROP, 0, 0, 0, 0);
        x.begin();
        x.finish();
        Due.is("values behind a migration", x.seen(), 2);
        Due.is("a value behind a migration", x.value(0), 5);
        Due.isText("a TEXT behind a migration", x, 1, "abc");
    }

    // ---- value, letter

    private static void numbers() {
        ShiftHouse x = Houses.withColumns(LONG, LONG, 0, 1, INT, 1, 1, LONG);
        x.draft(0, LEAST, 0);
        x.draft(1, GREATEST, -1);
        x.draft(2, 0, 1);
        x.draft(3, 0, 32768);
        x.draft(4, 0, LEAST);
        x.draft(7, -1, -1);
        x.write(1, false);
        Due.isRow("numbers", x, 1, false, Long.MIN_VALUE, Long.MAX_VALUE, 1, -32768, LEAST, 0, 0, -1);
    }

    private static void lengths() {
        for (int length = 0; length <= 24; length++) {
            ShiftHouse x = Houses.withColumns(INT, TEXT);
            Houses.lettersOf(x, 1, "9".repeat(length));
            x.write(1, false);
            x.read(1, false);
            Due.is("characters", x.value(1), length);
        }
    }

    private static void noSuchValue() {
        ShiftHouse x = Houses.withColumns(INT, INT);
        x.draft(0, 0, 3);
        x.draft(1, 0, 3);
        x.draft(2, 0, 3);
        x.write(1, false);
        int[] none = {-1, 2, 7, 8, LEAST, GREATEST};
        for (int i : none) {
            Due.is("nothing SEEN, value " + i, x.value(i), 0);
        }
        x.read(1, false);
        for (int i : none) {
            Due.is("value " + i, x.value(i), 0);
        }
        x.plan(Houses.DROP, 0, 0, 0, 0);
        x.begin();
        x.read(1, true);
        Due.is("a value that was there", x.value(1), 0);
        x.read(2, true);
        Due.is("a value of no row", x.value(0), 0);
        ShiftHouse eight = Houses.withColumns(2, 2, 2, 2, 2, 2, 2, 2);
        eight.write(1, false);
        eight.read(1, false);
        for (int i : none) {
            Due.is("value " + i + " of eight EMPTY ones", eight.value(i), 0);
        }
    }

    private static void characters() {
        ShiftHouse x = Houses.withColumns(TEXT, 2, 2, 2, 2, 2, 2, TEXT);
        String text = "\u0001bcdefghijklmnopqrstuvw\u00FF";
        Houses.lettersOf(x, 0, text);
        Houses.lettersOf(x, 7, text);
        x.write(1, false);
        x.read(1, false);
        for (int j = 0; j < 24; j++) {
            Due.is("character " + j, x.letter(0, j), text.charAt(j));
            Due.is("character " + j + " of value 7", x.letter(7, j), text.charAt(j));
        }
    }

    private static void noSuchCharacter() {
        ShiftHouse x = Houses.withColumns(TEXT, LONG, TEXT, TEXT);
        Houses.lettersOf(x, 0, "abcdefghijklmnopqrstuvwx");
        x.draft(1, 0x41424344, 0x45464748);
        Houses.lettersOf(x, 2, "abc");
        x.write(1, false);
        Due.is("nothing SEEN", x.letter(0, 0), 0);
        x.read(1, false);
        int[] none = {-1, 24, 25, 32, LEAST, GREATEST};
        for (int j : none) {
            Due.is("character " + j + " of 24", x.letter(0, j), 0);
            Due.is("character " + j + " of 3", x.letter(2, j), 0);
            Due.is("character " + j + " of none", x.letter(3, j), 0);
        }
        Due.is("character 3 of 3", x.letter(2, 3), 0);
        Due.is("character 0 of none", x.letter(3, 0), 0);
        for (int j = 0; j < 9; j++) {
            Due.is("character " + j + " of a number", x.letter(1, j), 0);
        }
        int[] noValues = {-1, 4, 7, 8, LEAST, GREATEST};
        for (int i : noValues) {
            Due.is("value " + i, x.letter(i, 0), 0);
        }
        x.read(2, false);
        Due.is("no row", x.letter(0, 0), 0);
    }

    // ---- next, more

    private static void leastAbove() {
        ShiftHouse x = Houses.withKeys(7, -3, 4, GREATEST, 0, LEAST);
        int[][] pairs = {{LEAST, -3}, {LEAST + 1, -3}, {-4, -3}, {-3, 0}, {-1, 0}, {0, 4}, {3, 4}, {4, 7}, {6, 7},
            {7, GREATEST}, {GREATEST - 1, GREATEST}};
        for (int[] pair : pairs) {
            Due.is("above " + pair[0], x.next(pair[0], false), pair[1]);
        }
        x.remove(4);
        Due.is("above 0 without 4", x.next(0, false), 7);
    }

    private static void leastOfAll() {
        ShiftHouse x = Houses.withKeys(7, -3, 4);
        int[] any = {LEAST, -3, 0, 7, GREATEST};
        for (int k : any) {
            Due.is("of all, " + k, x.next(k, true), -3);
        }
        x.write(LEAST, false);
        Due.is("the least key that there is", x.next(GREATEST, true), LEAST);
    }

    private static void noneAbove() {
        int[] any = {LEAST, -1, 0, 1, GREATEST};
        for (int k : any) {
            Due.is("no rows, " + k, new ShiftHouse().next(k, false), k);
            Due.is("no rows of all, " + k, new ShiftHouse().next(k, true), k);
        }
        ShiftHouse x = Houses.withKeys(5);
        Due.is("above the last", x.next(5, false), 5);
        Due.is("above that", x.next(6, false), 6);
        x.write(GREATEST, false);
        Due.is("above the greatest", x.next(GREATEST, false), GREATEST);
        x.remove(5);
        x.remove(GREATEST);
        Due.is("all are removed", x.next(3, true), 3);
    }

    private static void nextWhenDown() {
        Due.is("a key above", down().next(1, false), 0);
        Due.is("of all", down().next(1, true), 0);
        Due.is("none above", down().next(77, false), 0);
        ShiftHouse x = down();
        x.restart();
        Due.is("up again", x.next(1, false), 2);
    }

    private static void howManyAbove() {
        ShiftHouse x = Houses.withKeys(LEAST, -1, 0, 8, GREATEST);
        int[][] pairs = {{LEAST, 4}, {LEAST + 1, 4}, {-2, 4}, {-1, 3}, {0, 2}, {7, 2}, {8, 1}, {GREATEST - 1, 1},
            {GREATEST, 0}};
        for (int[] pair : pairs) {
            Due.is("above " + pair[0], x.more(pair[0], false), pair[1]);
        }
        Due.is("no rows", new ShiftHouse().more(LEAST, false), 0);
    }

    private static void howManyOfAll() {
        Due.is("no rows", new ShiftHouse().more(GREATEST, true), 0);
        ShiftHouse x = new ShiftHouse();
        for (int i = 1; i <= 40; i++) {
            x.write(i, false);
            Due.is("of all", x.more(GREATEST, true), i);
        }
        Due.is("of all, the least k", x.more(LEAST, true), 40);
        Due.is("above none of them", x.more(0, false), 40);
    }

    private static void moreWhenDown() {
        Due.is("above", down().more(1, false), -8);
        Due.is("of all", down().more(1, true), -8);
        Due.is("none above", down().more(GREATEST, false), -8);
    }
}
