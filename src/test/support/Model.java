import java.math.BigInteger;
import java.util.ArrayList;
import java.util.List;
import java.util.TreeMap;
import java.util.TreeSet;
import java.util.function.IntSupplier;

/** The document told once more, with the library and without thrift: values are Long or String. */
final class Model {
    record Column(int name, int type) { }

    record Step(int what, int name, int other, long told) { }

    private static final List<List<Integer>> CAN_BECOME =
        List.of(List.of(1, 2, 3), List.of(0, 2, 3), List.of(0, 1, 3, 4), List.of(0, 1, 2, 4), List.of(2, 3));

    private final List<Step> plan = new ArrayList<>();
    private final long[] told = new long[8];
    private final String[] letters = {"", "", "", "", "", "", "", ""};
    private List<Object> seen;

    private int version;
    private List<Column> schema = List.of();
    /** THE SCHEMA, and what each step makes of it; null while STABLE. */
    private List<List<Column>> path;
    private List<Step> steps;
    private TreeMap<Integer, List<Object>> prior = new TreeMap<>();
    private TreeMap<Integer, List<Object>> fresh = new TreeMap<>();
    private final TreeSet<Integer> lagging = new TreeSet<>();
    private final TreeSet<Integer> shadowed = new TreeSet<>();
    private final TreeSet<Integer> behindBefore = new TreeSet<>();

    private boolean down;
    private boolean note;
    private int crashIn;
    private int done;
    private int doneInCall;

    // ---- values

    private static Object tell(int type, long v) {
        return switch (type) {
            case 0 -> (Object) Math.floorMod(v, 2L);
            case 1 -> (Object) (long) (short) v;
            case 2 -> (Object) (long) (int) v;
            case 3 -> (Object) v;
            default -> lettersOf(v);
        };
    }

    private static String lettersOf(long v) {
        StringBuilder text = new StringBuilder();
        for (byte part : java.nio.ByteBuffer.allocate(8).putLong(v).array()) {
            if (part != 0) {
                text.append((char) Byte.toUnsignedInt(part));
            }
        }
        return text.toString();
    }

    private static Object become(Object value, int type) {
        BigInteger number;
        if (value instanceof String text) {
            number = text.matches("-?[0-9]{1,18}") ? new BigInteger(text) : BigInteger.ZERO;
        } else {
            number = BigInteger.valueOf((Long) value);
        }
        return switch (type) {
            case 0 -> (Object) (long) Math.abs(number.signum());
            case 1 -> (Object) nearest(number, 15);
            case 2 -> (Object) nearest(number, 31);
            case 3 -> (Object) number.longValueExact();
            default -> number.toString();
        };
    }

    private static long nearest(BigInteger number, int bits) {
        BigInteger bound = BigInteger.ONE.shiftLeft(bits);
        return number.max(bound.negate()).min(bound.subtract(BigInteger.ONE)).longValueExact();
    }

    // ---- schemas and rows

    private static int find(List<Column> columns, int name) {
        for (int i = 0; i < columns.size(); i++) {
            if (columns.get(i).name() == name) {
                return i;
            }
        }
        return -1;
    }

    /** null if the step is WRONG there. */
    private static List<Column> apply(List<Column> columns, Step step) {
        List<Column> after = new ArrayList<>(columns);
        int at = find(columns, step.name());
        if (step.what() == 0) {
            after.add(new Column(step.name(), step.other()));
            return at >= 0 || columns.size() == 8 ? null : after;
        }
        if (at < 0) {
            return null;
        }
        Column column = columns.get(at);
        switch (step.what()) {
            case 1 -> after.remove(at);
            case 2 -> after.set(at, new Column(step.other(), column.type()));
            default -> after.set(at, new Column(column.name(), step.other()));
        }
        boolean isWrong = step.what() == 2 && find(columns, step.other()) >= 0
            || step.what() == 3 && !CAN_BECOME.get(column.type()).contains(step.other());
        return isWrong ? null : after;
    }

    private List<Object> up(List<Object> row) {
        List<Object> made = new ArrayList<>(row);
        for (int s = 0; s < steps.size(); s++) {
            Step step = steps.get(s);
            int at = find(path.get(s), step.name());
            switch (step.what()) {
                case 0 -> made.add(tell(step.other(), step.told()));
                case 1 -> made.remove(at);
                case 3 -> made.set(at, become(made.get(at), step.other()));
                default -> { }
            }
        }
        return made;
    }

    private List<Object> down(List<Object> row, List<Object> old) {
        List<Object> made = new ArrayList<>();
        for (int i = 0; i < schema.size(); i++) {
            Column column = schema.get(i);
            Object value = back(column, 0, row);
            Object kept = old != null ? old.get(i) : column.type() == 4 ? "" : (Object) 0L;
            made.add(value != null ? value : kept);
        }
        return made;
    }

    /** The value that the column has ahead of step s; null if it is DROPPED later. */
    private Object back(Column column, int s, List<Object> row) {
        if (s == steps.size()) {
            return row.get(find(path.get(s), column.name()));
        }
        Step step = steps.get(s);
        if (step.name() != column.name()) {
            return back(column, s + 1, row);
        }
        return switch (step.what()) {
            case 1 -> null;
            case 2 -> back(new Column(step.other(), column.type()), s + 1, row);
            default -> {
                Object later = back(new Column(column.name(), step.other()), s + 1, row);
                yield later == null ? null : become(later, column.type());
            }
        };
    }

    private List<Column> nextSchema() {
        return path.get(path.size() - 1);
    }

    private List<Object> drafted(List<Column> columns) {
        List<Object> row = new ArrayList<>();
        for (int i = 0; i < columns.size(); i++) {
            int type = columns.get(i).type();
            row.add(type == 4 && !letters[i].isEmpty() ? letters[i] : tell(type, told[i]));
        }
        return row;
    }

    // ---- ACTIONS

    private boolean acts(int times) {
        for (int i = 0; i < times; i++) {
            if (crashIn > 0 && --crashIn == 0) {
                down = true;
                return false;
            }
            done++;
            doneInCall++;
        }
        return true;
    }

    private int change(int actions, IntSupplier effect) {
        if (path == null) {
            return acts(actions) ? effect.getAsInt() : -9;
        }
        if (!acts(1)) {
            return -9;
        }
        note = true;
        int answer = effect.getAsInt();
        note = !acts(3);
        return note ? -9 : answer;
    }

    // ---- the calls

    int plan(int what, int name, int other, int a, int b) {
        boolean isBad = what < 0 || what > 3 || name < 0 || name > 63
            || what == 2 && (other < 0 || other > 63) || (what == 0 || what == 3) && (other < 0 || other > 4);
        if (isBad || plan.size() == 6) {
            return isBad ? -1 : -4;
        }
        plan.add(new Step(what, name, other, ((long) a << 32) + Integer.toUnsignedLong(b)));
        return plan.size();
    }

    int scrap() {
        int had = plan.size();
        plan.clear();
        return had;
    }

    int draft(int i, int a, int b) {
        if (i < 0 || i > 7) {
            return -1;
        }
        told[i] = ((long) a << 32) + Integer.toUnsignedLong(b);
        letters[i] = "";
        return 1;
    }

    int letters(int i, int a, int b) {
        if (i < 0 || i > 7) {
            return -1;
        }
        String longer = letters[i] + lettersOf(((long) a << 32) + Integer.toUnsignedLong(b));
        if (longer.length() > 24) {
            return -4;
        }
        letters[i] = longer;
        return longer.length();
    }

    int write(int key, boolean next) {
        doneInCall = 0;
        if (down || next && path == null) {
            return down ? -8 : -2;
        }
        if (!prior.containsKey(key) && prior.size() == 40) {
            return -4;
        }
        return change(1, () -> put(key, next));
    }

    private int put(int key, boolean next) {
        List<Object> old = prior.get(key);
        if (next) {
            fresh.put(key, drafted(nextSchema()));
            prior.put(key, down(fresh.get(key), old));
        } else {
            prior.put(key, drafted(schema));
            if (path != null) {
                fresh.put(key, up(prior.get(key)));
            }
        }
        lagging.remove(key);
        behindBefore.remove(key);
        return old != null ? 1 : 0;
    }

    int remove(int key) {
        doneInCall = 0;
        if (down || !prior.containsKey(key)) {
            return down ? -8 : -3;
        }
        return change(shadowed.contains(key) ? 2 : 1, () -> {
            prior.remove(key);
            fresh.remove(key);
            lagging.remove(key);
            shadowed.remove(key);
            behindBefore.remove(key);
            return 1;
        });
    }

    int read(int key, boolean next) {
        if (down || next && path == null) {
            return down ? -8 : -2;
        }
        seen = (next ? fresh : prior).get(key);
        return seen == null ? 0 : 1;
    }

    int seen() {
        return seen == null ? -1 : seen.size();
    }

    private Object seenAt(int i) {
        return seen == null || i < 0 || i >= seen.size() ? 0L : seen.get(i);
    }

    long value(int i) {
        return seenAt(i) instanceof String text ? text.length() : (Long) seenAt(i);
    }

    int letter(int i, int j) {
        return seenAt(i) instanceof String text && j >= 0 && j < text.length() ? text.charAt(j) : 0;
    }

    int next(int k, boolean isFirst) {
        Integer key = isFirst ? (prior.isEmpty() ? null : prior.firstKey()) : prior.higherKey(k);
        return down ? 0 : key == null ? k : key;
    }

    int more(int k, boolean isFirst) {
        return down ? -8 : isFirst ? prior.size() : prior.tailMap(k, false).size();
    }

    int begin() {
        doneInCall = 0;
        if (down || path != null || plan.isEmpty() || !shadowed.isEmpty()) {
            return down ? -8 : -2;
        }
        if (version == 30) {
            return -4;
        }
        List<List<Column>> tried = new ArrayList<>(List.of(schema));
        for (int s = 0; s < plan.size(); s++) {
            List<Column> after = apply(tried.get(s), plan.get(s));
            if (after == null) {
                return -10 - s;
            }
            tried.add(after);
        }
        if (!acts(1)) {
            return -9;
        }
        path = tried;
        steps = List.copyOf(plan);
        plan.clear();
        prior.forEach((key, row) -> fresh.put(key, up(row)));
        behindBefore.addAll(lagging);
        lagging.addAll(prior.keySet());
        return nextSchema().size();
    }

    private int end(Runnable effect) {
        doneInCall = 0;
        if (down || path == null) {
            return down ? -8 : -2;
        }
        if (!acts(1)) {
            return -9;
        }
        effect.run();
        path = null;
        fresh = new TreeMap<>();
        behindBefore.clear();
        return version;
    }

    int finish() {
        return end(() -> {
            version++;
            schema = nextSchema();
            prior = fresh;
            shadowed.addAll(prior.keySet());
            shadowed.removeAll(lagging);
        });
    }

    int rollback() {
        return end(() -> {
            lagging.clear();
            lagging.addAll(behindBefore);
        });
    }

    int backfill() {
        doneInCall = 0;
        if (down) {
            return -8;
        }
        TreeSet<Integer> all = new TreeSet<>(lagging);
        all.addAll(shadowed);
        int filled = 0;
        for (int key : all.stream().limit(4).toList()) {
            if (!acts(shadowed.contains(key) ? 2 : 1)) {
                return -9;
            }
            lagging.remove(key);
            shadowed.remove(key);
            filled++;
        }
        return acts(filled > 0 ? 1 : 0) ? filled : -9;
    }

    int crash(int n) {
        if (n < 0 || n > 1000) {
            return -1;
        }
        crashIn = n;
        return 1;
    }

    int restart() {
        doneInCall = 0;
        if (!down) {
            return -2;
        }
        if (!acts(note ? 3 : 0)) {
            return -9;
        }
        note = false;
        down = false;
        return 1;
    }

    boolean isDown() {
        return down;
    }

    int count(int what) {
        if (what < 0 || what > 9) {
            return -1;
        }
        if (down && what < 7) {
            return -8;
        }
        int next = path == null ? 0 : nextSchema().size();
        int[] counts = {version, path == null ? 0 : 1, schema.size(), next, prior.size(),
            lagging.size() + shadowed.size(), shadowed.size(), done, plan.size(), doneInCall};
        return counts[what];
    }

    int column(int i, boolean next) {
        if (down || next && path == null) {
            return down ? -8 : -2;
        }
        List<Column> columns = next ? nextSchema() : schema;
        return i < 0 || i >= columns.size() ? -1 : 8 * columns.get(i).name() + columns.get(i).type();
    }
}
