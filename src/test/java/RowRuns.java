/** Promises 6 to 13: write, remove, read, seen, value, letter, next, more. */
public final class RowRuns {
    public static void main(String[] args) {
        writtenAndRemoved();
        fortyRows();
        fortyRowsWhileRunning();
        keysInOrder();
        edgesOfKeys();
        seenStays();
        seenKeepsItsTypes();
        edgesOfSeen();
        refusedReads();
        whenDown();
        Due.end();
    }

    private static void writtenAndRemoved() {
        ShiftHouse x = Houses.withColumns(Houses.INT);
        Due.is("remove of no row", x.remove(1), -3);
        x.draft(0, 0, 11);
        Due.is("write anew", x.write(1, false), 0);
        x.draft(0, 0, 12);
        Due.is("write again", x.write(1, false), 1);
        Due.is("one row", x.count(4), 1);
        Due.is("read", x.read(1, false), 1);
        Due.is("the latest value", x.value(0), 12);
        Due.is("read of another key", x.read(2, false), 0);
        Due.is("nothing is SEEN then", x.seen(), -1);
        Due.is("no value of nothing", x.value(0), 0);
        Due.is("remove", x.remove(1), 1);
        Due.is("remove again", x.remove(1), -3);
        Due.is("read behind it", x.read(1, false), 0);
        Due.is("no rows", x.count(4), 0);
        Due.is("write behind it", x.write(1, false), 0);
        Due.is("write in no next schema", x.write(1, true), -2);
        Due.is("nor of a new key", x.write(2, true), -2);
    }

    private static void fortyRows() {
        ShiftHouse x = new ShiftHouse();
        for (int i = 0; i < 40; i++) {
            Due.is("row " + i, x.write(i * 7 % 40, false), 0);
        }
        Due.is("a 41st", x.write(40, false), -4);
        Due.is("its ACTIONS", x.count(9), 0);
        Due.is("one of the forty", x.write(39, false), 1);
        Due.is("next without a migration goes ahead of too many", x.write(40, true), -2);
        Due.is("forty rows", x.count(4), 40);
        x.crash(1);
        Due.is("a refused write has no ACTION to crash", x.write(40, false), -4);
        x.crash(0);
        x.remove(0);
        Due.is("room again", x.write(40, false), 0);
        Due.is("no room again", x.write(0, false), -4);
    }

    private static void fortyRowsWhileRunning() {
        ShiftHouse x = new ShiftHouse();
        x.plan(Houses.ADD, 1, Houses.INT, 0, 0);
        x.begin();
        for (int i = 0; i < 40; i++) {
            x.write(i, i % 2 == 0);
        }
        Due.is("a 41st", x.write(-1, false), -4);
        Due.is("a 41st in the next schema", x.write(-1, true), -4);
        Due.is("one of the forty", x.write(7, true), 1);
    }

    private static void keysInOrder() {
        ShiftHouse x = Houses.withKeys(5, -3, 9, 0);
        Due.is("the least", x.next(100, true), -3);
        Due.is("above -3", x.next(-3, false), 0);
        Due.is("above -2", x.next(-2, false), 0);
        Due.is("above 0", x.next(0, false), 5);
        Due.is("above 5", x.next(5, false), 9);
        Due.is("above 9", x.next(9, false), 9);
        Due.is("above 77", x.next(77, false), 77);
        Due.is("all", x.more(100, true), 4);
        Due.is("more above -4", x.more(-4, false), 4);
        Due.is("more above -3", x.more(-3, false), 3);
        Due.is("more above 4", x.more(4, false), 2);
        Due.is("more above 9", x.more(9, false), 0);
        x.remove(0);
        Due.is("0 is gone", x.next(-3, false), 5);
        Due.is("more without it", x.more(-3, false), 2);
        int[] keys = {5, -3, 9};
        for (int key : keys) {
            x.read(key, false);
            Due.is("the row under " + key, x.value(0), key);
        }
    }

    private static void edgesOfKeys() {
        ShiftHouse x = Houses.withKeys(Integer.MAX_VALUE, Integer.MIN_VALUE);
        Due.is("the least of all keys", x.next(0, true), Integer.MIN_VALUE);
        Due.is("above the least", x.next(Integer.MIN_VALUE, false), Integer.MAX_VALUE);
        Due.is("above the greatest", x.next(Integer.MAX_VALUE, false), Integer.MAX_VALUE);
        Due.is("more above the least", x.more(Integer.MIN_VALUE, false), 1);
        Due.is("more of all, k being the greatest", x.more(Integer.MAX_VALUE, true), 2);
        x.read(Integer.MIN_VALUE, false);
        Due.is("the least key's row", x.value(0), Integer.MIN_VALUE);
        Due.is("remove of the least", x.remove(Integer.MIN_VALUE), 1);
        Due.is("remove of the greatest", x.remove(Integer.MAX_VALUE), 1);
        Due.is("no keys, isFirst", x.next(-6, true), -6);
    }

    private static void seenStays() {
        ShiftHouse x = Houses.withColumns(Houses.INT, Houses.TEXT);
        x.draft(0, 0, 5);
        Houses.lettersOf(x, 1, "abc");
        x.write(1, false);
        x.read(1, false);
        x.draft(0, 0, 6);
        Houses.lettersOf(x, 1, "zzzz");
        x.write(1, false);
        Due.is("SEEN is as it was read", x.value(0), 5);
        Due.isText("its TEXT too", x, 1, "abc");
        x.remove(1);
        x.plan(Houses.DROP, 0, 0, 0, 0);
        x.begin();
        x.finish();
        Due.is("SEEN has two values still", x.seen(), 2);
        Due.is("the first one", x.value(0), 5);
        Due.isText("the second one", x, 1, "abc");
        int[] noValues = {-1, 2, 8, Integer.MIN_VALUE, Integer.MAX_VALUE};
        for (int i : noValues) {
            Due.is("value " + i, x.value(i), 0);
            Due.is("letter of value " + i, x.letter(i, 0), 0);
        }
        int[] noLetters = {-1, 3, 24, Integer.MIN_VALUE, Integer.MAX_VALUE};
        for (int j : noLetters) {
            Due.is("letter " + j, x.letter(1, j), 0);
        }
        Due.is("a number has no letters", x.letter(0, 0), 0);
    }

    private static void seenKeepsItsTypes() {
        ShiftHouse x = Houses.withColumns(Houses.TEXT);
        Houses.lettersOf(x, 0, "17");
        x.write(1, false);
        x.plan(Houses.RETYPE, 0, Houses.INT, 0, 0);
        x.begin();
        x.read(1, true);
        Due.is("in THE NEXT SCHEMA a number", x.value(0), 17);
        Due.is("without characters", x.letter(0, 0), 0);
        x.read(1, false);
        x.finish();
        Due.isText("in THE SCHEMA a TEXT", x, 0, "17");
        x.read(1, false);
        Due.is("behind finish a number", x.value(0), 17);
        Due.is("that has no characters", x.letter(0, 0), 0);
    }

    private static void edgesOfSeen() {
        ShiftHouse x = Houses.withColumns(4, 3, 3, 3, 3, 3, 4, 4);
        String text = "abcdefghijklmnopqrstuvwx";
        Houses.lettersOf(x, 0, text);
        x.draft(1, -1, -1);
        Houses.lettersOf(x, 6, text);
        Houses.lettersOf(x, 7, text);
        x.write(1, false);
        x.read(1, false);
        Due.is("eight values", x.seen(), 8);
        Due.isText("24 characters ahead of a number", x, 0, text);
        Due.isText("24 characters ahead of others", x, 6, text);
        Due.isText("24 characters at the end", x, 7, text);
        Due.is("value 8", x.value(8), 0);
        Due.is("its letter", x.letter(8, 0), 0);
        x.plan(Houses.DROP, 7, 0, 0, 0);
        x.plan(Houses.DROP, 1, 0, 0, 0);
        x.begin();
        x.read(1, true);
        Due.is("six values", x.seen(), 6);
        for (int i = 6; i < 9; i++) {
            Due.is("value " + i + " of six", x.value(i), 0);
            Due.is("its letter", x.letter(i, 0), 0);
        }
    }

    private static void refusedReads() {
        ShiftHouse x = Houses.withKeys(4);
        x.read(4, false);
        Due.is("read in no next schema", x.read(5, true), -2);
        Due.is("SEEN stays", x.value(0), 4);
        x.crash(1);
        x.write(4, false);
        Due.is("read when DOWN", x.read(5, false), -8);
        Due.is("SEEN stays again", x.seen(), 1);
        x.restart();
        Due.is("and behind restart", x.value(0), 4);
    }

    private static void whenDown() {
        ShiftHouse x = Houses.withKeys(4, 6);
        x.crash(1);
        Due.is("the crash", x.remove(4), -9);
        Due.is("write", x.write(4, false), -8);
        Due.is("write in no next schema", x.write(4, true), -8);
        Due.is("remove", x.remove(4), -8);
        Due.is("remove of no row", x.remove(5), -8);
        Due.is("read", x.read(4, false), -8);
        Due.is("read in no next schema", x.read(4, true), -8);
        Due.is("next", x.next(3, false), 0);
        Due.is("next of all", x.next(3, true), 0);
        Due.is("more", x.more(3, false), -8);
        Due.is("more of all", x.more(3, true), -8);
        x.restart();
        Due.is("both rows are there", x.more(0, true), 2);
    }
}
