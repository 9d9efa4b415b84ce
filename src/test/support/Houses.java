/** Houses to start a test with. */
final class Houses {
    static final int FLAG = 0;
    static final int SHORT = 1;
    static final int INT = 2;
    static final int LONG = 3;
    static final int TEXT = 4;

    static final int ADD = 0;
    static final int DROP = 1;
    static final int RENAME = 2;
    static final int RETYPE = 3;

    /** STABLE in version 1 (2 with more than six columns); column i has the name i; no rows. */
    static ShiftHouse withColumns(int... types) {
        ShiftHouse x = new ShiftHouse();
        for (int i = 0; i < types.length; i++) {
            if (i == 6) {
                x.begin();
                x.finish();
            }
            x.plan(ADD, i, types[i], 0, 0);
        }
        x.begin();
        x.finish();
        return x;
    }

    /** Version 1 with one LONG column, and a row under each key whose value is the key; none LAGS. */
    static ShiftHouse withKeys(int... keys) {
        ShiftHouse x = withColumns(LONG);
        for (int key : keys) {
            x.draft(0, key < 0 ? -1 : 0, key);
            x.write(key, false);
        }
        return x;
    }

    /** The same with a migration RUNNING that adds an INT column of the value 7; all rows LAG. */
    static ShiftHouse runningWithKeys(int... keys) {
        ShiftHouse x = withKeys(keys);
        x.plan(ADD, 9, INT, 0, 7);
        x.begin();
        return x;
    }

    /** Text of up to 24 characters becomes the letters of a cell. */
    static void lettersOf(ShiftHouse x, int cell, String text) {
        x.draft(cell, 0, 0);
        for (int j = 0; j < text.length(); j++) {
            x.letters(cell, 0, text.charAt(j));
        }
    }
}
