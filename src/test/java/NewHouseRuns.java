/** Promise 1: a new object. */
public final class NewHouseRuns {
    public static void main(String[] args) {
        ShiftHouse x = new ShiftHouse();
        for (int what = 0; what <= 9; what++) {
            Due.is("count(" + what + ") of a new house", x.count(what), 0);
        }
        Due.is("it is up", x.isDown(), false);
        Due.is("nothing is SEEN", x.seen(), -1);
        Due.is("value(0)", x.value(0), 0);
        Due.is("letter(0, 0)", x.letter(0, 0), 0);
        Due.is("no rows", x.more(0, true), 0);
        Due.is("next of no rows", x.next(5, true), 5);
        Due.is("no columns", x.column(0, false), -1);
        Due.is("the PLAN is empty", x.scrap(), 0);
        Due.is("no migration", x.column(0, true), -2);
        draftIsEmpty();
        noCrashIsTold();
        housesAreApart();
        Due.end();
    }

    private static void draftIsEmpty() {
        ShiftHouse x = new ShiftHouse();
        for (int i = 0; i < 8; i++) {
            Due.is("letters of cell " + i, x.letters(i, 0, 0), 0);
        }
        ShiftHouse y = Houses.withColumns(Houses.LONG, Houses.TEXT);
        y.write(1, false);
        y.read(1, false);
        Due.is("an empty cell as a number", y.value(0), 0);
        Due.is("an empty cell as a TEXT", y.value(1), 0);
    }

    private static void noCrashIsTold() {
        ShiftHouse x = new ShiftHouse();
        for (int i = 0; i < 200; i++) {
            x.write(1, false);
        }
        Due.is("200 ACTIONS", x.count(7), 200);
        Due.is("still up", x.isDown(), false);
    }

    private static void housesAreApart() {
        ShiftHouse x = new ShiftHouse();
        ShiftHouse y = new ShiftHouse();
        x.write(1, false);
        x.plan(Houses.ADD, 1, Houses.INT, 0, 0);
        x.crash(1);
        Due.is("the other house's rows", y.count(4), 0);
        Due.is("the other house's PLAN", y.count(8), 0);
        Due.is("the other house's crash", y.write(1, false), 0);
        Due.is("its own crash", x.write(1, false), -9);
    }
}
