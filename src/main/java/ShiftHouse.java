/** A table whose schema changes while it is in use. The document's promises tell what each call does. */
public final class ShiftHouse {
    private static final int FLAG = 0;
    private static final int SHORT = 1;
    private static final int INT = 2;
    private static final int LONG = 3;
    private static final int TEXT = 4;

    private static final int ADD = 0;
    private static final int DROP = 1;
    private static final int RENAME = 2;
    private static final int RETYPE = 3;

    private static final int MAX_COLUMNS = 8;
    private static final int MAX_NAME = 63;
    private static final int MAX_LETTERS = 24;
    private static final int MAX_STEPS = 6;
    private static final int MAX_ROWS = 40;
    private static final int MAX_VERSION = 30;
    private static final int MAX_CRASH = 1000;
    private static final int ROWS_A_BACKFILL = 4;

    // How a row LAGS. While a migration is RUNNING a row that LAGS counts as BEHIND: finish() makes it so.
    private static final int UP_TO_DATE = 0;
    private static final int BEHIND = 1;
    private static final int SHADOWED = 2;

    private static final int BAD_INPUT = -1;
    private static final int NOT_NOW = -2;
    private static final int NO_ROW = -3;
    private static final int FULL = -4;
    private static final int IS_DOWN = -8;
    private static final int CRASHED = -9;
    private static final int WRONG_STEP = -10;

    private final Disk disk = new Disk();
    private final Table table = new Table();
    private final Draft drafted = new Draft();
    private final Form seenForm = new Form();
    private final Schema seenSchema = new Schema();
    private boolean isSeen;
    private Schema schema = new Schema();
    // While STABLE nobody sees this one, so begin() tries a PLAN out in it.
    private Schema nextSchema = new Schema();
    private Migration planned = new Migration();
    private Migration migration = new Migration();
    private boolean isRunning;
    private int version;

    public ShiftHouse() {
    }

    // ---- the PLAN

    public int plan(int what, int name, int other, int a, int b) {
        if (what < ADD || what > RETYPE || !isName(name)) {
            return BAD_INPUT;
        }
        if (what == RENAME && !isName(other)) {
            return BAD_INPUT;
        }
        if ((what == ADD || what == RETYPE) && !isType(other)) {
            return BAD_INPUT;
        }
        if (planned.size == MAX_STEPS) {
            return FULL;
        }
        planned.append(what, name, other, joined(a, b));
        return planned.size;
    }

    public int scrap() {
        int had = planned.size;
        planned.size = 0;
        return had;
    }

    // ---- the DRAFT

    public int draft(int i, int a, int b) {
        if (!isCell(i)) {
            return BAD_INPUT;
        }
        drafted.setCell(i, joined(a, b));
        return 1;
    }

    public int letters(int i, int a, int b) {
        if (!isCell(i)) {
            return BAD_INPUT;
        }
        return drafted.addLetters(i, joined(a, b)) ? drafted.letterCount(i) : FULL;
    }

    // ---- rows

    public int write(int key, boolean next) {
        disk.startCall();
        if (disk.isDown) {
            return IS_DOWN;
        }
        if (next && !isRunning) {
            return NOT_NOW;
        }
        boolean wasThere = table.placeUnder(key) >= 0;
        if (!wasThere && table.size == MAX_ROWS) {
            return FULL;
        }
        if (!disk.act()) {
            return CRASHED;
        }
        putDraft(key, next);
        if (isRunning && !disk.carryOutNote()) {
            return CRASHED;
        }
        return wasThere ? 1 : 0;
    }

    public int remove(int key) {
        disk.startCall();
        if (disk.isDown) {
            return IS_DOWN;
        }
        int place = table.placeUnder(key);
        if (place < 0) {
            return NO_ROW;
        }
        if (!disk.actTimes(table.rows[place].diskPlaces())) {
            return CRASHED;
        }
        table.takeOut(place);
        if (isRunning && !disk.carryOutNote()) {
            return CRASHED;
        }
        return 1;
    }

    public int read(int key, boolean next) {
        if (disk.isDown) {
            return IS_DOWN;
        }
        if (next && !isRunning) {
            return NOT_NOW;
        }
        int place = table.placeUnder(key);
        isSeen = place >= 0;
        if (place < 0) {
            return 0;
        }
        Row row = table.rows[place];
        seenForm.copyFrom(next ? row.fresh : row.prior);
        seenSchema.copyFrom(next ? nextSchema : schema);
        return 1;
    }

    public int seen() {
        return isSeen ? seenSchema.size : -1;
    }

    public long value(int i) {
        return isSeenColumn(i) ? seenForm.numberAt(i) : 0;
    }

    public int letter(int i, int j) {
        if (!isSeenColumn(i) || seenSchema.types[i] != TEXT || j < 0 || j >= seenForm.numberAt(i)) {
            return 0;
        }
        return seenForm.letterAt(i, j);
    }

    public int next(int k, boolean isFirst) {
        if (disk.isDown) {
            return 0;
        }
        int place = table.placeAbove(k, isFirst);
        return place < table.size ? table.rows[place].key : k;
    }

    public int more(int k, boolean isFirst) {
        return disk.isDown ? IS_DOWN : table.size - table.placeAbove(k, isFirst);
    }

    // ---- migrations

    public int begin() {
        disk.startCall();
        if (disk.isDown) {
            return IS_DOWN;
        }
        if (isRunning || planned.size == 0 || table.countShadowed() > 0) {
            return NOT_NOW;
        }
        if (version == MAX_VERSION) {
            return FULL;
        }
        int wrong = planned.firstWrongStep(schema, nextSchema);
        if (wrong >= 0) {
            return WRONG_STEP - wrong;
        }
        if (!disk.act()) {
            return CRASHED;
        }
        runPlan();
        return nextSchema.size;
    }

    public int finish() {
        int refusal = endRunning();
        if (refusal != 0) {
            return refusal;
        }
        Schema former = schema;
        schema = nextSchema;
        nextSchema = former;
        version++;
        for (int i = 0; i < table.size; i++) {
            table.rows[i].keepFresh();
        }
        return version;
    }

    public int rollback() {
        int refusal = endRunning();
        if (refusal != 0) {
            return refusal;
        }
        for (int i = 0; i < table.size; i++) {
            table.rows[i].keepPrior();
        }
        return version;
    }

    public int backfill() {
        disk.startCall();
        if (disk.isDown) {
            return IS_DOWN;
        }
        int filled = 0;
        for (int i = 0; i < table.size && filled < ROWS_A_BACKFILL; i++) {
            Row row = table.rows[i];
            if (row.lag != UP_TO_DATE) {
                if (!disk.actTimes(row.diskPlaces())) {
                    return CRASHED;
                }
                row.lag = UP_TO_DATE;
                filled++;
            }
        }
        if (filled > 0 && !disk.act()) {
            return CRASHED;
        }
        return filled;
    }

    // ---- crashes

    public int crash(int n) {
        if (n < 0 || n > MAX_CRASH) {
            return BAD_INPUT;
        }
        disk.crashAt = n;
        return 1;
    }

    public int restart() {
        disk.startCall();
        if (!disk.isDown) {
            return NOT_NOW;
        }
        if (disk.hasNote && !disk.carryOutNote()) {
            return CRASHED;
        }
        disk.isDown = false;
        return 1;
    }

    public boolean isDown() {
        return disk.isDown;
    }

    // ---- questions

    public int count(int what) {
        if (what < 0 || what > 9) {
            return BAD_INPUT;
        }
        switch (what) {
            case 7:
                return disk.done;
            case 8:
                return planned.size;
            case 9:
                return disk.doneInCall;
            default:
                return disk.isDown ? IS_DOWN : countWhenUp(what);
        }
    }

    public int column(int i, boolean next) {
        if (disk.isDown) {
            return IS_DOWN;
        }
        if (next && !isRunning) {
            return NOT_NOW;
        }
        Schema asked = next ? nextSchema : schema;
        if (i < 0 || i >= asked.size) {
            return BAD_INPUT;
        }
        return 8 * asked.names[i] + asked.types[i];
    }

    // ---- what the calls share

    private static boolean isName(int name) {
        return name >= 0 && name <= MAX_NAME;
    }

    private static boolean isType(int type) {
        return type >= FLAG && type <= TEXT;
    }

    private static boolean isCell(int i) {
        return i >= 0 && i < MAX_COLUMNS;
    }

    private static long joined(int a, int b) {
        return ((long) a << 32) | (b & 0xFFFFFFFFL);
    }

    private boolean isSeenColumn(int i) {
        return isSeen && i >= 0 && i < seenSchema.size;
    }

    private void putDraft(int key, boolean next) {
        int place = table.placeUnder(key);
        Row row = place >= 0 ? table.rows[place] : table.insert(key);
        if (next) {
            drafted.putInto(row.fresh, nextSchema);
            migration.makeDown(row.fresh, row.prior, schema.size);
        } else {
            drafted.putInto(row.prior, schema);
            if (isRunning) {
                migration.makeUp(row.prior, row.fresh);
            }
        }
        row.markWritten();
    }

    private void runPlan() {
        Migration over = migration;
        migration = planned;
        planned = over;
        planned.size = 0;
        isRunning = true;
        for (int i = 0; i < table.size; i++) {
            Row row = table.rows[i];
            migration.makeUp(row.prior, row.fresh);
            row.markBegun();
        }
    }

    /** What finish() and rollback() have in common: 0, or why there is no end of the migration. */
    private int endRunning() {
        disk.startCall();
        if (disk.isDown) {
            return IS_DOWN;
        }
        if (!isRunning) {
            return NOT_NOW;
        }
        if (!disk.act()) {
            return CRASHED;
        }
        isRunning = false;
        return 0;
    }

    private int countWhenUp(int what) {
        switch (what) {
            case 0:
                return version;
            case 1:
                return isRunning ? 1 : 0;
            case 2:
                return schema.size;
            case 3:
                return isRunning ? nextSchema.size : 0;
            case 4:
                return table.size;
            case 5:
                return table.countLagging();
            default:
                return table.countShadowed();
        }
    }

    /** The values of a row, packed so that a house of 40 rows stays small. */
    private static final class Form {
        private static final int WORDS = 4;
        private static final int LETTERS_A_WORD = 8;
        private static final int MINUS = 45;
        private static final int ZERO = 48;
        private static final int NINE = 57;
        private static final int MAX_DIGITS = 18;
        private static final long HIGHEST_POWER = 1_000_000_000_000_000_000L;
        private static final long LEAST_SHORT = -32768L;
        private static final long GREATEST_SHORT = 32767L;
        private static final long LEAST_INT = -2147483648L;
        private static final long GREATEST_INT = 2147483647L;

        // Of each value the number (of a TEXT: how many letters), then three words of eight letters each.
        final long[] words = new long[MAX_COLUMNS * WORDS];

        void copyFrom(Form other) {
            System.arraycopy(other.words, 0, words, 0, words.length);
        }

        void copyValue(int i, Form other, int from) {
            System.arraycopy(other.words, from * WORDS, words, i * WORDS, WORDS);
        }

        void clearAll() {
            for (int i = 0; i < MAX_COLUMNS; i++) {
                setNumber(i, 0);
            }
        }

        void takeValueOut(int i) {
            int behind = (i + 1) * WORDS;
            System.arraycopy(words, behind, words, i * WORDS, words.length - behind);
        }

        long numberAt(int i) {
            return words[i * WORDS];
        }

        void setNumber(int i, long number) {
            int at = i * WORDS;
            words[at] = number;
            for (int w = 1; w < WORDS; w++) {
                words[at + w] = 0;
            }
        }

        int letterAt(int i, int j) {
            long word = words[i * WORDS + 1 + j / LETTERS_A_WORD];
            return (int) (word >>> (8 * (j % LETTERS_A_WORD))) & 255;
        }

        void appendLetter(int i, int letter) {
            int at = i * WORDS;
            int size = (int) words[at];
            if (size < 0 || size >= MAX_LETTERS) {
                return;
            }
            words[at + 1 + size / LETTERS_A_WORD] |= (long) letter << (8 * (size % LETTERS_A_WORD));
            words[at] = size + 1;
        }

        void appendLetters(int i, long told) {
            for (int shift = 56; shift >= 0; shift -= 8) {
                int letter = (int) (told >>> shift) & 255;
                if (letter != 0) {
                    appendLetter(i, letter);
                }
            }
        }

        void setTold(int i, int type, long told) {
            switch (type) {
                case FLAG:
                    setNumber(i, told & 1);
                    break;
                case SHORT:
                    setNumber(i, (short) told);
                    break;
                case INT:
                    setNumber(i, (int) told);
                    break;
                case LONG:
                    setNumber(i, told);
                    break;
                default:
                    setNumber(i, 0);
                    appendLetters(i, told);
                    break;
            }
        }

        void become(int i, int from, int to) {
            long number = from == TEXT ? numberTold(i) : numberAt(i);
            switch (to) {
                case FLAG:
                    setNumber(i, number == 0 ? 0 : 1);
                    break;
                case SHORT:
                    setNumber(i, Math.max(LEAST_SHORT, Math.min(GREATEST_SHORT, number)));
                    break;
                case INT:
                    setNumber(i, Math.max(LEAST_INT, Math.min(GREATEST_INT, number)));
                    break;
                case LONG:
                    setNumber(i, number);
                    break;
                default:
                    setDigits(i, number);
                    break;
            }
        }

        /** The number that a TEXT tells; 0 if it tells none. */
        private long numberTold(int i) {
            int size = (int) numberAt(i);
            int start = size > 0 && letterAt(i, 0) == MINUS ? 1 : 0;
            if (size - start < 1 || size - start > MAX_DIGITS) {
                return 0;
            }
            long number = 0;
            for (int j = start; j < size; j++) {
                int letter = letterAt(i, j);
                if (letter < ZERO || letter > NINE) {
                    return 0;
                }
                number = 10 * number + (letter - ZERO);
            }
            return start == 1 ? -number : number;
        }

        private void setDigits(int i, long number) {
            setNumber(i, 0);
            if (number < 0) {
                appendLetter(i, MINUS);
            }
            boolean isAhead = true;
            for (long power = HIGHEST_POWER; power > 0; power /= 10) {
                // The sign goes only now: the least long has no positive counterpart.
                int digit = (int) Math.abs(number / power % 10);
                isAhead = isAhead && digit == 0 && power > 1;
                if (!isAhead) {
                    appendLetter(i, ZERO + digit);
                }
            }
        }
    }

    /** A row of columns. */
    private static final class Schema {
        // For each type a bit for each type that it can become.
        private static final int[] CAN_BECOME = {0b01110, 0b01101, 0b11011, 0b10111, 0b01100};

        final int[] names = new int[MAX_COLUMNS];
        final int[] types = new int[MAX_COLUMNS];
        int size;

        void copyFrom(Schema other) {
            System.arraycopy(other.names, 0, names, 0, MAX_COLUMNS);
            System.arraycopy(other.types, 0, types, 0, MAX_COLUMNS);
            size = other.size;
        }

        /** Changes the schema by a step and tells the step where it works; false if the step is WRONG. */
        boolean change(Step step) {
            int place = placeOf(step.name);
            if (step.what == ADD) {
                return place < 0 && addColumn(step);
            }
            if (place < 0) {
                return false;
            }
            step.place = place;
            step.from = types[place];
            switch (step.what) {
                case DROP:
                    dropColumn(place);
                    return true;
                case RENAME:
                    return renameColumn(place, step.other);
                default:
                    return retypeColumn(place, step.other);
            }
        }

        private int placeOf(int name) {
            for (int i = 0; i < size; i++) {
                if (names[i] == name) {
                    return i;
                }
            }
            return -1;
        }

        private boolean addColumn(Step step) {
            if (size >= MAX_COLUMNS) {
                return false;
            }
            step.place = size;
            names[size] = step.name;
            types[size] = step.other;
            size++;
            return true;
        }

        private void dropColumn(int place) {
            int behind = size - place - 1;
            System.arraycopy(names, place + 1, names, place, behind);
            System.arraycopy(types, place + 1, types, place, behind);
            size--;
        }

        private boolean renameColumn(int place, int name) {
            if (placeOf(name) >= 0) {
                return false;
            }
            names[place] = name;
            return true;
        }

        private boolean retypeColumn(int place, int type) {
            if ((CAN_BECOME[types[place]] >> type & 1) == 0) {
                return false;
            }
            types[place] = type;
            return true;
        }
    }

    /** A step of a migration; place and from (the type before) are known once a schema has taken it. */
    private static final class Step {
        private static final int GONE = -1;

        int what;
        int name;
        int other;
        long told;
        int place;
        int from;

        void changeForm(Form form) {
            switch (what) {
                case ADD:
                    form.setTold(place, other, told);
                    break;
                case DROP:
                    form.takeValueOut(place);
                    break;
                case RETYPE:
                    form.become(place, from, other);
                    break;
                default:
                    break;
            }
        }

        /** Where the column stands behind this step that stood at a place before it. */
        int placeBehind(int before) {
            if (what != DROP || before < place) {
                return before;
            }
            return before == place ? GONE : before - 1;
        }
    }

    /** A row of steps: the PLAN, or the migration that is RUNNING. */
    private static final class Migration {
        final Step[] steps = new Step[MAX_STEPS];
        int size;
        // Where the column that makeDown looks at stands before each step.
        private final int[] places = new int[MAX_STEPS];

        Migration() {
            for (int s = 0; s < MAX_STEPS; s++) {
                steps[s] = new Step();
            }
        }

        void append(int what, int name, int other, long told) {
            Step step = steps[size];
            step.what = what;
            step.name = name;
            step.other = other;
            step.told = told;
            size++;
        }

        /** Makes a schema of another one; answers the number of the first WRONG step, or -1. */
        int firstWrongStep(Schema first, Schema last) {
            last.copyFrom(first);
            for (int s = 0; s < size; s++) {
                if (!last.change(steps[s])) {
                    return s;
                }
            }
            return -1;
        }

        void makeUp(Form prior, Form fresh) {
            fresh.copyFrom(prior);
            for (int s = 0; s < size; s++) {
                steps[s].changeForm(fresh);
            }
        }

        /** prior holds the OLD row (or EMPTY values): a column that is DROPPED keeps what it has there. */
        void makeDown(Form fresh, Form prior, int columns) {
            for (int i = 0; i < columns; i++) {
                int last = lastPlace(i);
                if (last != Step.GONE) {
                    prior.copyValue(i, fresh, last);
                    makeBack(prior, i);
                }
            }
        }

        private int lastPlace(int first) {
            int place = first;
            for (int s = 0; s < size && place != Step.GONE; s++) {
                places[s] = place;
                place = steps[s].placeBehind(place);
            }
            return place;
        }

        private void makeBack(Form prior, int i) {
            for (int s = size - 1; s >= 0; s--) {
                Step step = steps[s];
                if (step.what == RETYPE && step.place == places[s]) {
                    prior.become(i, step.other, step.from);
                }
            }
        }
    }

    /** The values that are to be written. */
    private static final class Draft {
        private final long[] told = new long[MAX_COLUMNS];
        private final Form letters = new Form();

        void setCell(int i, long bits) {
            told[i] = bits;
            letters.setNumber(i, 0);
        }

        /** False, and nothing is added, if there would be too many. */
        boolean addLetters(int i, long bits) {
            int added = 0;
            for (int shift = 0; shift < 64; shift += 8) {
                if ((bits >>> shift & 255) != 0) {
                    added++;
                }
            }
            if (letterCount(i) + added > MAX_LETTERS) {
                return false;
            }
            letters.appendLetters(i, bits);
            return true;
        }

        int letterCount(int i) {
            return (int) letters.numberAt(i);
        }

        void putInto(Form form, Schema schema) {
            for (int i = 0; i < schema.size; i++) {
                if (schema.types[i] == TEXT && letterCount(i) > 0) {
                    form.copyValue(i, letters, i);
                } else {
                    form.setTold(i, schema.types[i], told[i]);
                }
            }
        }
    }

    /** A row under its key; fresh is its NEW form and counts only while a migration is RUNNING. */
    private static final class Row {
        int key;
        int lag;
        private boolean wasBehind;
        Form prior = new Form();
        Form fresh = new Form();

        void startUnder(int newKey) {
            key = newKey;
            lag = UP_TO_DATE;
            prior.clearAll();
        }

        /** In how many places of the disk it is to be dealt with. */
        int diskPlaces() {
            return lag == SHADOWED ? 2 : 1;
        }

        void markWritten() {
            wasBehind = false;
            if (lag == BEHIND) {
                lag = UP_TO_DATE;
            }
        }

        void markBegun() {
            wasBehind = lag == BEHIND;
            lag = BEHIND;
        }

        void keepFresh() {
            Form former = prior;
            prior = fresh;
            fresh = former;
            lag = lag == BEHIND ? BEHIND : SHADOWED;
        }

        void keepPrior() {
            lag = wasBehind ? BEHIND : UP_TO_DATE;
        }
    }

    /** The rows in the order of their keys; behind them stand rows to be used again. */
    private static final class Table {
        final Row[] rows = new Row[MAX_ROWS];
        int size;

        Table() {
            for (int i = 0; i < MAX_ROWS; i++) {
                rows[i] = new Row();
            }
        }

        /** The place of the first row above a key (of all rows, if isFirst); size, if there is none. */
        int placeAbove(int key, boolean isFirst) {
            int place = 0;
            while (!isFirst && place < size && rows[place].key <= key) {
                place++;
            }
            return place;
        }

        /** The place of the row under a key; -1, if there is none. */
        int placeUnder(int key) {
            int place = placeAbove(key, false) - 1;
            return place >= 0 && rows[place].key == key ? place : -1;
        }

        /** Wants a key that has no row, and fewer than MAX_ROWS rows. */
        Row insert(int key) {
            int place = placeAbove(key, false);
            Row row = rows[size];
            for (int i = size; i > place; i--) {
                rows[i] = rows[i - 1];
            }
            rows[place] = row;
            size++;
            row.startUnder(key);
            return row;
        }

        void takeOut(int place) {
            Row row = rows[place];
            for (int i = place; i < size - 1; i++) {
                rows[i] = rows[i + 1];
            }
            size--;
            rows[size] = row;
        }

        int countLagging() {
            int lagging = 0;
            for (int i = 0; i < size; i++) {
                if (rows[i].lag != UP_TO_DATE) {
                    lagging++;
                }
            }
            return lagging;
        }

        int countShadowed() {
            int shadowed = 0;
            for (int i = 0; i < size; i++) {
                if (rows[i].lag == SHADOWED) {
                    shadowed++;
                }
            }
            return shadowed;
        }
    }

    /** Counts the ACTIONS and goes DOWN at the one that is told. */
    private static final class Disk {
        boolean isDown;
        boolean hasNote;
        // The how-manieth ACTION from now on is not done; 0: none is told.
        int crashAt;
        int done;
        int doneInCall;

        void startCall() {
            doneInCall = 0;
        }

        /** Does one ACTION; false if the house is DOWN instead. */
        boolean act() {
            if (crashAt == 1) {
                crashAt = 0;
                isDown = true;
                return false;
            }
            if (crashAt > 0) {
                crashAt--;
            }
            done++;
            doneInCall++;
            return true;
        }

        boolean actTimes(int times) {
            for (int i = 0; i < times; i++) {
                if (!act()) {
                    return false;
                }
            }
            return true;
        }

        /** MAIN, SHADOW, the NOTE is gone: it stays on the disk until all three are done. */
        boolean carryOutNote() {
            hasNote = true;
            if (!actTimes(3)) {
                return false;
            }
            hasNote = false;
            return true;
        }
    }
}
