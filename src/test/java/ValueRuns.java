/** The TYPES: how a value is TOLD, and what it becomes. */
public final class ValueRuns {
    private static final String[] TYPES = {"FLAG", "SHORT", "INT", "LONG", "TEXT"};
    private static final String[] CAN_BECOME = {
        "SHORT INT LONG", "FLAG INT LONG", "FLAG SHORT LONG TEXT", "FLAG SHORT INT TEXT", "INT LONG"};
    private static final long[] NUMBERS = {
        0, 1, -1, 2, 9, 10, -10, 32767, 32768, -32768, -32769, 65536, 100200, Integer.MAX_VALUE, Integer.MIN_VALUE,
        Integer.MAX_VALUE + 1L, Integer.MIN_VALUE - 1L, 1L << 32, 999999999999999999L, -999999999999999999L,
        1000000000000000000L, -1000000000000000000L, Long.MAX_VALUE, Long.MIN_VALUE};

    public static void main(String[] args) {
        told();
        whatCanBecomeWhat();
        for (long number : NUMBERS) {
            become(Houses.FLAG, number & 1);
            become(Houses.SHORT, (short) number);
            become(Houses.INT, (int) number);
            become(Houses.LONG, number);
        }
        textsBecomeNumbers();
        Due.end();
    }

    private static void told() {
        ShiftHouse x = Houses.withColumns(Houses.FLAG, Houses.SHORT, Houses.INT, Houses.LONG, Houses.TEXT);
        int[] ints = {0, 1, -1, 2, 3, 32767, 32768, 65535, 65536, 0x7FFFFFFF, 0x80000000, 0x41420043, 0xFF000001};
        for (int a : ints) {
            for (int b : ints) {
                for (int i = 0; i < 5; i++) {
                    x.draft(i, a, b);
                }
                x.write(1, false);
                x.read(1, false);
                String call = "told by " + a + ", " + b;
                Due.is("FLAG " + call, x.value(0), b & 1);
                Due.is("SHORT " + call, x.value(1), (short) b);
                Due.is("INT " + call, x.value(2), b);
                Due.is("LONG " + call, x.value(3), a * 4294967296L + Integer.toUnsignedLong(b));
                Due.isText("TEXT " + call, x, 4, bytesOf(a) + bytesOf(b));
            }
            x = Houses.withColumns(Houses.FLAG, Houses.SHORT, Houses.INT, Houses.LONG, Houses.TEXT);
        }
    }

    private static String bytesOf(int word) {
        StringBuilder text = new StringBuilder();
        for (byte part : java.nio.ByteBuffer.allocate(4).putInt(word).array()) {
            if (part != 0) {
                text.append((char) (part & 255));
            }
        }
        return text.toString();
    }

    private static void whatCanBecomeWhat() {
        for (int from = 0; from < 5; from++) {
            for (int to = 0; to < 5; to++) {
                ShiftHouse x = Houses.withColumns(from);
                x.plan(Houses.RETYPE, 0, to, 0, 0);
                boolean can = (" " + CAN_BECOME[from] + " ").contains(" " + TYPES[to] + " ");
                Due.is(TYPES[from] + " to " + TYPES[to], x.begin(), can ? 1 : -10);
            }
        }
    }

    private static void become(int from, long number) {
        ShiftHouse x = Houses.withColumns(from);
        x.draft(0, (int) (number >> 32), (int) number);
        x.write(1, false);
        for (String to : CAN_BECOME[from].split(" ")) {
            String call = TYPES[from] + " " + number + " as " + to;
            x.plan(Houses.RETYPE, 0, java.util.Arrays.asList(TYPES).indexOf(to), 0, 0);
            x.begin();
            x.read(1, true);
            switch (to) {
                case "FLAG" -> Due.is(call, x.value(0), number != 0 ? 1 : 0);
                case "SHORT" -> Due.is(call, x.value(0), nearest(number, -32768, 32767));
                case "INT" -> Due.is(call, x.value(0), nearest(number, Integer.MIN_VALUE, Integer.MAX_VALUE));
                case "LONG" -> Due.is(call, x.value(0), number);
                default -> Due.isText(call, x, 0, Long.toString(number));
            }
            x.rollback();
        }
    }

    private static long nearest(long number, long least, long greatest) {
        return number < least ? least : number > greatest ? greatest : number;
    }

    private static void textsBecomeNumbers() {
        textBecomes("", 0);
        textBecomes("-", 0);
        textBecomes("0", 0);
        textBecomes("-0", 0);
        textBecomes("7", 7);
        textBecomes("-7", -7);
        textBecomes("--7", 0);
        textBecomes("7-", 0);
        textBecomes("+7", 0);
        textBecomes("7 ", 0);
        textBecomes("7/", 0);
        textBecomes("7:", 0);
        textBecomes("1\u00B2", 0);
        textBecomes("007", 7);
        textBecomes("2147483647", 2147483647L);
        textBecomes("2147483648", 2147483648L);
        textBecomes("-2147483649", -2147483649L);
        textBecomes("123456789012345678", 123456789012345678L);
        textBecomes("-123456789012345678", -123456789012345678L);
        textBecomes("999999999999999999", 999999999999999999L);
        textBecomes("000000000000000001", 1);
        textBecomes("0000000000000000001", 0);
        textBecomes("1000000000000000000", 0);
        textBecomes("-1000000000000000000", 0);
        textBecomes("123456789012345678901234", 0);
    }

    private static void textBecomes(String text, long number) {
        ShiftHouse x = Houses.withColumns(Houses.TEXT);
        Houses.lettersOf(x, 0, text);
        x.write(1, false);
        x.plan(Houses.RETYPE, 0, Houses.LONG, 0, 0);
        x.begin();
        x.read(1, true);
        Due.is("TEXT " + text + " as LONG", x.value(0), number);
        x.rollback();
        x.plan(Houses.RETYPE, 0, Houses.INT, 0, 0);
        x.begin();
        x.read(1, true);
        Due.is("TEXT " + text + " as INT", x.value(0), nearest(number, Integer.MIN_VALUE, Integer.MAX_VALUE));
        x.read(1, false);
        Due.isText("TEXT " + text + " as it is", x, 0, text);
    }
}
