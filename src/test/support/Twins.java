import java.util.ArrayList;
import java.util.List;
import java.util.function.Consumer;
import java.util.function.Supplier;

/** Two houses made alike, one of which has had a call more that changes nothing: from then on they answer alike. */
final class Twins {
    private static final int WAYS = 4;
    private static final int[] KEYS = {1, 2, 3, 41};

    static void answerAlike(String call, Supplier<ShiftHouse> start, Consumer<ShiftHouse> more) {
        for (int way = 0; way < WAYS; way++) {
            ShiftHouse one = start.get();
            ShiftHouse other = start.get();
            more.accept(one);
            List<String> got = answers(one, way);
            List<String> want = answers(other, way);
            Due.is(call + ": answers, way " + way, got.size(), want.size());
            for (int i = 0; i < Math.min(got.size(), want.size()); i++) {
                boolean isAlike = got.get(i).equals(want.get(i));
                Due.is(call + ": alike, way " + way + ": " + got.get(i) + " for " + want.get(i), isAlike, true);
            }
        }
    }

    private static List<String> answers(ShiftHouse x, int way) {
        List<String> told = new ArrayList<>();
        lookAtSeen(told, x);
        look(told, x);
        goUp(told, x);
        go(told, x, way);
        look(told, x);
        told.add("backfill " + x.backfill() + ", " + x.backfill());
        // Five writes' ACTIONS reach each crash that a start has told.
        for (int i = 0; i < 5; i++) {
            told.add("write " + x.write(1, false) + ", all ACTIONS " + x.count(7));
        }
        goUp(told, x);
        return told;
    }

    /** A house that is up is not asked to restart: a refused restart would hide what another one has changed. */
    private static void goUp(List<String> told, ShiftHouse x) {
        if (x.isDown()) {
            told.add("restart " + x.restart());
        }
        look(told, x);
    }

    /** Each way shows another part of what a house holds. */
    private static void go(List<String> told, ShiftHouse x, int way) {
        if (way == 0) {
            told.add("finish " + x.finish());
        } else if (way == 1) {
            told.add("rollback " + x.rollback());
        } else if (way == 2) {
            told.add("begin " + x.begin());
        } else {
            told.add("write " + x.write(3, true) + ", " + x.write(1, false));
        }
        told.add("ACTIONS " + x.count(9));
    }

    private static void look(List<String> told, ShiftHouse x) {
        told.add("DOWN " + x.isDown());
        for (int what = 0; what <= 8; what++) {
            told.add("count " + what + " " + x.count(what));
        }
        for (int i = 0; i < 4; i++) {
            told.add("column " + i + " " + x.column(i, false) + ", " + x.column(i, true));
            told.add("letters " + i + " " + x.letters(i, 0, 0));
        }
        told.add("all keys " + x.next(0, true) + ", " + x.more(0, true));
        told.add("keys above 3 " + x.next(3, false) + ", " + x.more(3, false));
        for (int key : KEYS) {
            told.add("read " + key + " " + x.read(key, false));
            lookAtSeen(told, x);
            told.add("read next " + key + " " + x.read(key, true));
            lookAtSeen(told, x);
        }
    }

    private static void lookAtSeen(List<String> told, ShiftHouse x) {
        told.add("seen " + x.seen() + ": " + x.value(0) + ", " + x.value(1) + ", " + x.value(2));
        told.add("letter " + x.letter(1, 0));
    }
}
