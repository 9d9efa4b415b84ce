/** Promises 4 and 5: draft, letters. */
public final class DraftRuns {
    public static void main(String[] args) {
        cells();
        lettersAreAdded();
        tooManyLetters();
        draftTakesLettersAway();
        lettersAreForTextAlone();
        staysWhateverCrashes();
        Due.end();
    }

    private static void cells() {
        ShiftHouse x = new ShiftHouse();
        int[] noCells = {-1, 8, Integer.MIN_VALUE, Integer.MAX_VALUE};
        for (int i : noCells) {
            Due.is("draft of cell " + i, x.draft(i, 1, 1), -1);
            Due.is("letters of cell " + i, x.letters(i, 1, 1), -1);
        }
        int[] types = new int[8];
        java.util.Arrays.fill(types, Houses.LONG);
        ShiftHouse y = Houses.withColumns(types);
        for (int i = 0; i < 8; i++) {
            Due.is("draft of cell " + i, y.draft(i, i - 4, i - 2), 1);
        }
        y.write(1, false);
        y.read(1, false);
        for (int i = 0; i < 8; i++) {
            Due.is("value of cell " + i, y.value(i), ((long) (i - 4) << 32) + ((i - 2) & 0xFFFFFFFFL));
        }
    }

    private static void lettersAreAdded() {
        ShiftHouse x = Houses.withColumns(Houses.TEXT, Houses.TEXT);
        Due.is("two letters", x.letters(0, 0x61000000, 0x00000062), 2);
        Due.is("none", x.letters(0, 0, 0), 2);
        Due.is("eight more", x.letters(0, 0x63646566, 0x676869FF), 10);
        Due.is("the other cell has its own", x.letters(1, 0x80000000, 0), 1);
        x.write(1, false);
        x.read(1, false);
        Due.isText("letters, the highest byte first", x, 0, "abcdefghi\u00FF");
        Due.isText("letters of the other cell", x, 1, "\u0080");
        x.write(2, false);
        x.read(2, false);
        Due.isText("write leaves the DRAFT as it is", x, 0, "abcdefghi\u00FF");
    }

    private static void tooManyLetters() {
        ShiftHouse x = Houses.withColumns(Houses.TEXT);
        Due.is("8 letters", x.letters(0, 0x41424344, 0x45464748), 8);
        Due.is("16 letters", x.letters(0, 0x494A4B4C, 0x4D4E4F50), 16);
        Due.is("23 letters", x.letters(0, 0x51525354, 0x00555657), 23);
        Due.is("25 would be too many", x.letters(0, 0, 0x5A5A), -4);
        Due.is("none is added then", x.letters(0, 0, 0), 23);
        Due.is("24 letters", x.letters(0, 0x58000000, 0), 24);
        Due.is("one more", x.letters(0, 0, 0x59), -4);
        Due.is("no more", x.letters(0, 0, 0), 24);
        x.write(1, false);
        x.read(1, false);
        Due.isText("24 letters", x, 0, "ABCDEFGHIJKLMNOPQRSTUVWX");
        for (int i = 1; i <= 3; i++) {
            Due.is("letters of the least and greatest numbers", x.letters(1, 0x01FF0180, 0xFF018001), 8 * i);
        }
        Due.is("one of 1 more", x.letters(1, 0, 1), -4);
        Due.is("one of 128 more", x.letters(1, 0x80000000, 0), -4);
        Due.is("24 still", x.letters(1, 0, 0), 24);
    }

    private static void draftTakesLettersAway() {
        ShiftHouse x = Houses.withColumns(Houses.TEXT, Houses.TEXT);
        x.letters(0, 0x61626364, 0x65666768);
        x.letters(1, 0, 0x6B);
        Due.is("draft", x.draft(0, 0, 0x7879), 1);
        x.write(1, false);
        x.read(1, false);
        Due.isText("a TEXT without letters is told by a, b", x, 0, "xy");
        Due.isText("the other cell keeps its letters", x, 1, "k");
        Due.is("letters start anew", x.letters(0, 0, 0x7A), 1);
        x.write(1, false);
        x.read(1, false);
        Due.isText("letters go before a, b", x, 0, "z");
    }

    private static void lettersAreForTextAlone() {
        ShiftHouse x = Houses.withColumns(Houses.INT);
        x.draft(0, 0, 42);
        x.letters(0, 0, 0x39);
        x.write(1, false);
        x.read(1, false);
        Due.is("a number is told by a, b", x.value(0), 42);
        Due.is("a number has no characters", x.letter(0, 0), 0);
    }

    private static void staysWhateverCrashes() {
        ShiftHouse x = Houses.withColumns(Houses.INT, Houses.TEXT);
        x.draft(0, 0, 5);
        x.letters(1, 0, 0x61);
        x.crash(1);
        Due.is("write crashes", x.write(1, false), -9);
        Due.is("letters when DOWN", x.letters(1, 0, 0x62), 2);
        x.restart();
        x.write(1, false);
        x.read(1, false);
        Due.is("the cell is there", x.value(0), 5);
        Due.isText("the letters are there", x, 1, "ab");
        x.crash(1);
        x.write(1, false);
        Due.is("draft when DOWN", x.draft(0, 0, 6), 1);
        Due.is("draft of no cell when DOWN", x.draft(8, 0, 6), -1);
        x.restart();
        x.write(1, false);
        x.read(1, false);
        Due.is("the new cell is there", x.value(0), 6);
    }
}
