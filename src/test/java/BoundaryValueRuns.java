import java.util.TreeMap;

/** 'What it is' and the values' part of 'Terms', sentence by sentence. */
public final class BoundaryValueRuns {
    private static final int FLAG = Houses.FLAG;
    private static final int SHORT = Houses.SHORT;
    private static final int INT = Houses.INT;
    private static final int LONG = Houses.LONG;
    private static final int TEXT = Houses.TEXT;

    private static final String TEXT_24 = "ABCDEFGHIJKLMNOPQRSTUVWX";

    public static void main(String[] args) {
        Part.between("## What it is", "## The public face")
            .skip("## What it is")
            .skip("A table whose schema changes while it is in use")
            .holds("rows keep the version that they were written in and are brought up when they are read",
                BoundaryValueRuns::rowsAreBroughtUp)
            .holds("a migration runs with rows written in both forms, is filled in step by step, and is finished"
                + " or rolled back", BoundaryValueRuns::aMigrationRuns)
            .holds("whatever crashes when, nothing that was acknowledged is lost",
                BoundaryValueRuns::whatWasAcknowledgedIsThere)
            .holds("VALUES have a TYPE", BoundaryValueRuns::valuesHaveAType)
            .holds("An object is used for at most 512 calls after it has been made",
                BoundaryValueRuns::fiveHundredAndTwelveCalls)
            .holds("what later calls answer is free", BoundaryValueRuns::laterCallsEndToo)
            .end();
        Part.between("## Terms", "==== A SCHEMA")
            .skip("## Terms")
            .holds("0 FLAG (0 or 1)", BoundaryValueRuns::flags)
            .holds("1 SHORT (16 bits with sign)", BoundaryValueRuns::shorts)
            .holds("2 INT (32 bits with sign)", BoundaryValueRuns::ints)
            .holds("3 LONG (64 bits with sign)", BoundaryValueRuns::longs)
            .holds("4 TEXT (0 to 24 characters, each a number 1 .. 255)", BoundaryValueRuns::texts)
            .holds("The EMPTY value of a type is 0, or no characters", BoundaryValueRuns::emptyValues)
            .holds("A value is TOLD by a type and two ints a, b; with v = a times 2^32 and b (b without sign)",
                BoundaryValueRuns::bHasNoSign)
            .holds("FLAG: the lowest bit of v", BoundaryValueRuns::lowestBit)
            .holds("SHORT, INT: its lowest 16, 32 bits, with sign", BoundaryValueRuns::lowestBits)
            .holds("LONG: v", BoundaryValueRuns::allBits)
            .holds("TEXT: the eight bytes of v, the highest first, those that are 0 left out",
                BoundaryValueRuns::eightBytes)
            .holds("FLAG CAN BECOME SHORT, INT, LONG", () -> canBecome(FLAG, SHORT, INT, LONG))
            .holds("SHORT: FLAG, INT, LONG", () -> canBecome(SHORT, FLAG, INT, LONG))
            .holds("INT: FLAG, SHORT, LONG, TEXT", () -> canBecome(INT, FLAG, SHORT, LONG, TEXT))
            .holds("LONG: FLAG, SHORT, INT, TEXT", () -> canBecome(LONG, FLAG, SHORT, INT, TEXT))
            .holds("TEXT: INT, LONG", () -> canBecome(TEXT, INT, LONG))
            .holds("nothing else", BoundaryValueRuns::canNotBecome)
            .holds("It becomes: a FLAG: 1 if the number is not 0", BoundaryValueRuns::becomesFlag)
            .holds("a SHORT, an INT: the number, or the nearest one that there is", BoundaryValueRuns::becomesNearest)
            .holds("a LONG: the number", BoundaryValueRuns::becomesLong)
            .holds("a TEXT: its decimal digits (characters 48 .. 57, no 0 ahead but of 0 itself), 45 before them if it"
                + " is below 0", BoundaryValueRuns::becomesText)
            .holds("Of a TEXT the number is meant that it tells: of 1 to 18 characters 48 .. 57, perhaps with 45 before"
                + " the first, that number (less, with 45)", BoundaryValueRuns::numbersToldByText)
            .holds("of any other TEXT 0", BoundaryValueRuns::otherTexts)
            .end();
        Due.end();
    }

    // ---- what it is

    private static void rowsAreBroughtUp() {
        ShiftHouse x = Houses.withKeys(1);
        for (int version = 1; version < 8; version++) {
            x.plan(Houses.ADD, 10 + version, INT, 0, version);
            x.begin();
            x.finish();
        }
        Due.is("it LAGS all along", x.count(5), 1);
        Due.isRow("seven versions later", x, 1, false, 1, 1, 2, 3, 4, 5, 6, 7);
    }

    private static void aMigrationRuns() {
        for (int end = 0; end < 2; end++) {
            ShiftHouse x = Houses.runningWithKeys(1, 2, 3, 4, 5);
            x.draft(0, 0, 50);
            x.draft(1, 0, 51);
            x.write(1, false);
            x.write(2, true);
            Due.is("a step", x.backfill(), 3);
            Due.is("no step more", x.backfill(), 0);
            Due.isRow("in THE SCHEMA", x, 1, false, 50);
            Due.isRow("in THE NEXT SCHEMA", x, 2, true, 50, 51);
            Due.is("the end", end == 0 ? x.finish() : x.rollback(), end == 0 ? 2 : 1);
            Due.is("columns", x.count(2), end == 0 ? 2 : 1);
        }
    }

    private static void whatWasAcknowledgedIsThere() {
        for (int n = 1; n <= 60; n++) {
            ShiftHouse x = Houses.withColumns(INT);
            TreeMap<Integer, Integer> rows = new TreeMap<>();
            x.crash(n);
            for (int call = 0; call < 24; call++) {
                workOn(x, rows, call);
                if (x.isDown()) {
                    x.restart();
                    workOn(x, rows, call);
                }
            }
            Due.is("finished, crash " + n, x.count(0), 2);
            Due.is("rows, crash " + n, x.count(4), rows.size());
            for (int key : rows.keySet()) {
                x.read(key, false);
                Due.is("row " + key + ", crash " + n, x.value(0), rows.get(key));
            }
        }
    }

    /** One of several calls that are done again behind a crash; what is acknowledged is noted. */
    private static void workOn(ShiftHouse x, TreeMap<Integer, Integer> rows, int call) {
        int key = call * 5 % 7;
        if (call % 12 == 3 && x.count(1) == 0) {
            x.scrap();
            x.plan(Houses.RENAME, 0, 1, 0, 0);
            x.begin();
        } else if (call == 10) {
            x.rollback();
        } else if (call == 22) {
            x.finish();
        } else if (call % 5 == 4) {
            if (x.remove(key) != -9) {
                rows.remove(key);
            }
        } else if (call % 6 == 5) {
            x.backfill();
        } else {
            x.draft(0, 0, call);
            if (x.write(key, x.count(1) == 1 && call % 2 == 0) >= 0) {
                rows.put(key, call);
            }
        }
    }

    private static void valuesHaveAType() {
        ShiftHouse x = Houses.withColumns(FLAG, SHORT, INT, LONG, TEXT);
        for (int i = 0; i < 5; i++) {
            x.draft(i, 0x41424344, 0x45464749);
        }
        x.write(1, false);
        x.read(1, false);
        Due.is("a FLAG", x.value(0), 1);
        Due.is("a SHORT", x.value(1), 0x4749);
        Due.is("an INT", x.value(2), 0x45464749);
        Due.is("a LONG", x.value(3), 0x4142434445464749L);
        Due.isText("a TEXT", x, 4, "ABCDEFGI");
    }

    private static void fiveHundredAndTwelveCalls() {
        ShiftHouse x = new ShiftHouse();
        x.plan(Houses.ADD, 1, LONG, 0, 0);
        x.begin();
        for (int call = 3; call < 508; call++) {
            x.write(call % 40, call % 2 == 0);
        }
        Due.is("call 508", x.draft(0, 7, 9), 1);
        Due.is("call 509", x.write(0, true), 1);
        Due.is("call 510", x.read(0, true), 1);
        Due.is("call 511", x.value(0), (7L << 32) + 9);
        Due.is("call 512", x.count(7), 1 + 4 * 506);
    }

    /** Nobody looks at their answers; but each of them is to give one (rule 7 of LANGUAGE.md). */
    private static void laterCallsEndToo() {
        ShiftHouse x = Houses.runningWithKeys(1);
        int ended = 0;
        for (int call = 0; call < 5000; call++) {
            x.write(call, false);
            x.backfill();
            x.read(call, true);
            ended++;
        }
        Due.is("calls that ended", ended, 5000);
    }

    // ---- how a value is told

    /** The same value, told by a cell of the DRAFT and by the default of an ADD; it stands in column 0 of SEEN. */
    private static ShiftHouse told(int type, int a, int b, boolean isDefault) {
        ShiftHouse x = isDefault ? new ShiftHouse() : Houses.withColumns(type);
        x.draft(0, a, b);
        x.write(1, false);
        if (isDefault) {
            x.plan(Houses.ADD, 0, type, a, b);
            x.begin();
        }
        x.read(1, isDefault);
        return x;
    }

    private static void isTold(int type, int a, int b, long want) {
        String call = "type " + type + " told by " + a + ", " + b;
        Due.is(call, told(type, a, b, false).value(0), want);
        Due.is(call + " as a default", told(type, a, b, true).value(0), want);
    }

    private static void isToldText(int a, int b, String want) {
        String call = "TEXT told by " + a + ", " + b;
        Due.isText(call, told(TEXT, a, b, false), 0, want);
        Due.isText(call + " as a default", told(TEXT, a, b, true), 0, want);
    }

    private static void flags() {
        isTold(FLAG, 0, 0, 0);
        isTold(FLAG, 0, 1, 1);
        isTold(FLAG, -1, -1, 1);
    }

    private static void shorts() {
        isTold(SHORT, 0, 32767, 32767);
        isTold(SHORT, 0, 32768, -32768);
        isTold(SHORT, 0, 65535, -1);
        isTold(SHORT, 0, 65536, 0);
        isTold(SHORT, -1, -32768, -32768);
        isTold(SHORT, -1, -32769, 32767);
    }

    private static void ints() {
        isTold(INT, 0, Integer.MAX_VALUE, Integer.MAX_VALUE);
        isTold(INT, 0, Integer.MIN_VALUE, Integer.MIN_VALUE);
        isTold(INT, 1, -1, -1);
        isTold(INT, 1, 0, 0);
    }

    private static void longs() {
        isTold(LONG, Integer.MAX_VALUE, -1, Long.MAX_VALUE);
        isTold(LONG, Integer.MIN_VALUE, 0, Long.MIN_VALUE);
        isTold(LONG, -1, -1, -1);
    }

    private static void texts() {
        isToldText(0, 0, "");
        isToldText(0x01FF7F80, 0xFE0280FF, "\u0001\u00FF\u007F\u0080\u00FE\u0002\u0080\u00FF");
        ShiftHouse x = Houses.withColumns(TEXT, TEXT);
        Houses.lettersOf(x, 0, TEXT_24);
        Houses.lettersOf(x, 1, "\u00FF".repeat(23) + "\u0001");
        Due.is("a 25th", x.letters(0, 0, 1), -4);
        x.write(1, false);
        x.read(1, false);
        Due.isText("24 characters", x, 0, TEXT_24);
        Due.isText("24 of the edges", x, 1, "\u00FF".repeat(23) + "\u0001");
    }

    private static void emptyValues() {
        ShiftHouse x = Houses.withColumns(FLAG, SHORT, INT, LONG, TEXT);
        for (int name = 0; name < 5; name++) {
            x.draft(name, -1, -1);
            x.plan(Houses.DROP, name, 0, 0, 0);
        }
        x.begin();
        x.write(1, true);
        Due.isRow("EMPTY values", x, 1, false, 0, 0, 0, 0, 0);
        Due.isText("no characters", x, 4, "");
    }

    private static void bHasNoSign() {
        isTold(LONG, 0, -1, 4294967295L);
        isTold(LONG, 0, Integer.MIN_VALUE, 2147483648L);
        isTold(LONG, -1, 0, -4294967296L);
        isTold(LONG, 1, -1, 8589934591L);
        isTold(LONG, Integer.MAX_VALUE, Integer.MAX_VALUE, 0x7FFFFFFF7FFFFFFFL);
    }

    private static void lowestBit() {
        isTold(FLAG, 1, 0, 0);
        isTold(FLAG, 0, 2, 0);
        isTold(FLAG, -1, -2, 0);
        isTold(FLAG, 0, 3, 1);
        isTold(FLAG, 0, Integer.MIN_VALUE, 0);
    }

    private static void lowestBits() {
        isTold(SHORT, 0, 0x12348000, -32768);
        isTold(SHORT, 0, 0x80007FFF, 32767);
        isTold(SHORT, 0x7FFF, 0x10000, 0);
        isTold(INT, 0x12345678, 0x80000001, Integer.MIN_VALUE + 1L);
        isTold(INT, -1, 0x7FFFFFFF, Integer.MAX_VALUE);
    }

    private static void allBits() {
        isTold(LONG, 0, 0, 0);
        isTold(LONG, 0, 1, 1);
        isTold(LONG, 0x12345678, 0x9ABCDEF0, 0x123456789ABCDEF0L);
        isTold(LONG, Integer.MIN_VALUE, -1, Long.MIN_VALUE + 4294967295L);
    }

    private static void eightBytes() {
        isToldText(0x41424344, 0x45464748, "ABCDEFGH");
        isToldText(0x41000000, 0, "A");
        isToldText(0, 0x41, "A");
        isToldText(0x00410042, 0x43004400, "ABCD");
        isToldText(0xFF000000, 0x00000080, "\u00FF\u0080");
    }

    // ---- what a value becomes

    private static void canBecome(int from, int... types) {
        for (int to : types) {
            ShiftHouse x = Houses.withColumns(from);
            x.plan(Houses.RETYPE, 0, to, 0, 0);
            Due.is(from + " to " + to, x.begin(), 1);
            Due.is("it is of that type", x.column(0, true), to);
        }
    }

    private static void canNotBecome() {
        int[][] pairs = {{FLAG, FLAG}, {SHORT, SHORT}, {INT, INT}, {LONG, LONG}, {TEXT, TEXT},
            {FLAG, TEXT}, {SHORT, TEXT}, {TEXT, FLAG}, {TEXT, SHORT}};
        for (int[] pair : pairs) {
            ShiftHouse x = Houses.withColumns(pair[0]);
            x.plan(Houses.RETYPE, 0, pair[1], 0, 0);
            Due.is(pair[0] + " to " + pair[1], x.begin(), -10);
        }
    }

    /** The number told by a cell becomes another type; it stands in column 0 of SEEN. */
    private static ShiftHouse become(int from, int to, long number) {
        ShiftHouse x = Houses.withColumns(from);
        x.draft(0, (int) (number >> 32), (int) number);
        x.write(1, false);
        x.plan(Houses.RETYPE, 0, to, 0, 0);
        x.begin();
        x.read(1, true);
        return x;
    }

    private static void becomes(int from, int to, long number, long want) {
        Due.is(number + " of type " + from + " as " + to, become(from, to, number).value(0), want);
    }

    private static void becomesFlag() {
        long[] numbers = {1, -1, 2, -2, 32767, -32768};
        for (int from = SHORT; from <= LONG; from++) {
            becomes(from, FLAG, 0, 0);
            for (long number : numbers) {
                becomes(from, FLAG, number, 1);
            }
        }
        becomes(INT, FLAG, Integer.MIN_VALUE, 1);
        becomes(LONG, FLAG, 1L << 32, 1);
        becomes(LONG, FLAG, Long.MIN_VALUE, 1);
    }

    private static void becomesNearest() {
        long[] whole = {0, 1, -1, 32767, -32768};
        for (int from = INT; from <= LONG; from++) {
            for (long number : whole) {
                becomes(from, SHORT, number, number);
            }
            becomes(from, SHORT, 32768, 32767);
            becomes(from, SHORT, -32769, -32768);
            becomes(from, SHORT, Integer.MAX_VALUE, 32767);
            becomes(from, SHORT, Integer.MIN_VALUE, -32768);
        }
        becomes(LONG, SHORT, Long.MAX_VALUE, 32767);
        becomes(LONG, SHORT, Long.MIN_VALUE, -32768);
        becomes(LONG, INT, Integer.MAX_VALUE, Integer.MAX_VALUE);
        becomes(LONG, INT, Integer.MAX_VALUE + 1L, Integer.MAX_VALUE);
        becomes(LONG, INT, Integer.MIN_VALUE, Integer.MIN_VALUE);
        becomes(LONG, INT, Integer.MIN_VALUE - 1L, Integer.MIN_VALUE);
        becomes(LONG, INT, Long.MAX_VALUE, Integer.MAX_VALUE);
        becomes(LONG, INT, Long.MIN_VALUE, Integer.MIN_VALUE);
        becomes(FLAG, SHORT, 1, 1);
        becomes(FLAG, INT, 1, 1);
        becomes(SHORT, INT, -32768, -32768);
    }

    private static void becomesLong() {
        becomes(FLAG, LONG, 0, 0);
        becomes(FLAG, LONG, 1, 1);
        becomes(SHORT, LONG, -32768, -32768);
        becomes(INT, LONG, Integer.MIN_VALUE, Integer.MIN_VALUE);
        becomes(INT, LONG, Integer.MAX_VALUE, Integer.MAX_VALUE);
    }

    private static void becomesText() {
        long[] numbers = {0, 1, -1, 9, 10, -10, 100, 101, -909, Integer.MAX_VALUE, Integer.MIN_VALUE};
        for (long number : numbers) {
            Due.isText("an INT", become(INT, TEXT, number), 0, Long.toString(number));
            Due.isText("a LONG", become(LONG, TEXT, number), 0, Long.toString(number));
        }
        long[] longs = {Long.MAX_VALUE, Long.MIN_VALUE, 1000000000000000000L, 999999999999999999L,
            -1000000000000000000L};
        for (long number : longs) {
            Due.isText("a long LONG", become(LONG, TEXT, number), 0, Long.toString(number));
        }
    }

    private static void textBecomes(String text, long want) {
        for (int to = INT; to <= LONG; to++) {
            ShiftHouse x = Houses.withColumns(TEXT);
            Houses.lettersOf(x, 0, text);
            x.write(1, false);
            x.plan(Houses.RETYPE, 0, to, 0, 0);
            x.begin();
            x.read(1, true);
            long nearest = Math.max(Integer.MIN_VALUE, Math.min(Integer.MAX_VALUE, want));
            Due.is("'" + text + "' as " + to, x.value(0), to == INT ? nearest : want);
            Due.is("it has no characters", x.letter(0, 0), 0);
        }
    }

    private static void numbersToldByText() {
        textBecomes("0", 0);
        textBecomes("9", 9);
        textBecomes("-9", -9);
        textBecomes("-0", 0);
        textBecomes("00", 0);
        textBecomes("007", 7);
        textBecomes("999999999999999999", 999999999999999999L);
        textBecomes("-999999999999999999", -999999999999999999L);
        textBecomes("000000000000000001", 1);
        textBecomes("-000000000000000001", -1);
        textBecomes("2147483648", 2147483648L);
        textBecomes("-2147483649", -2147483649L);
    }

    private static void otherTexts() {
        String[] others = {"", "-", "--1", "1-", "+1", " 1", "1 ", "/", ":", "1/", "1:", "1.0", "a", "\u00B9", "-:",
            "1000000000000000000", "0000000000000000001", "-1000000000000000000", "-0000000000000000001",
            "123456789012345678901234", "-12345678901234567890123", "12345678901234567x"};
        for (String text : others) {
            textBecomes(text, 0);
        }
    }
}
