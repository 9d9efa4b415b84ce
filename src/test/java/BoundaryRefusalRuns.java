import java.util.LinkedHashMap;
import java.util.List;
import java.util.Map;
import java.util.Set;
import java.util.TreeSet;
import java.util.function.Supplier;
import java.util.function.ToIntFunction;

/** The end of 'Terms', on refusals, the PLAN and the DRAFT, sentence by sentence. */
public final class BoundaryRefusalRuns {
    private static final int INT = Houses.INT;
    private static final int TEXT = Houses.TEXT;
    private static final int ADD = Houses.ADD;
    private static final int DROP = Houses.DROP;

    public static void main(String[] args) {
        Part.between("A call that is refused", "## Promise 1:")
            .holds("A call that is refused changes nothing.", BoundaryRefusalRuns::refusedCallsChangeNothing)
            .holds("Of several refusals that counts which is told first at the call.",
                BoundaryRefusalRuns::whichIsFirst)
            .skip("Ahead of the calls `plan`, `scrap` the interface says: ---- ")
            .holds("the PLAN: steps of the migration that is to begin", BoundaryRefusalRuns::thePlan)
            .holds("it is not on the disk, and stays whatever crashes", BoundaryRefusalRuns::planAndDraftStay)
            .skip("Ahead of the calls `draft`, `letters` the interface says: ---- ")
            .holds("the DRAFT: 8 values told by bits and letters", BoundaryRefusalRuns::theDraft)
            .skip("Ahead of the calls `write`, `remove`, `read`, `seen`, `value`, `letter`, `next`, `more` the"
                + " interface says: ---- rows.")
            .holds("(A value of column i that is written is TOLD by its type and a, b of cell i of the DRAFT",
                BoundaryRefusalRuns::cellsOfColumns)
            .holds("but a TEXT is its letters, if it has some.)", BoundaryRefusalRuns::lettersOfText)
            .skip("Ahead of the calls `begin`, `finish`, `rollback`, `backfill` the interface says: ---- migrations.")
            .skip("Ahead of the calls `crash`, `restart`, `isDown` the interface says: ---- crashes.")
            .skip("Ahead of the calls `count`, `column` the interface says: ---- questions.")
            .end();
        Due.end();
    }

    // ---- houses

    private static ShiftHouse withDraftAndSeen(ShiftHouse x) {
        x.draft(0, 0, 60);
        x.draft(1, 0, 61);
        x.letters(1, 0, 0x4142);
        x.read(2, false);
        return x;
    }

    private static ShiftHouse stable() {
        ShiftHouse x = withDraftAndSeen(Houses.withKeys(1, 2, 3));
        x.plan(ADD, 20, INT, 0, 5);
        x.plan(ADD, 21, TEXT, 0, 0x43);
        x.crash(6);
        return x;
    }

    private static ShiftHouse running() {
        ShiftHouse x = Houses.runningWithKeys(1, 2, 3);
        x.write(3, true);
        x.plan(DROP, 0, 0, 0, 0);
        x.crash(9);
        return withDraftAndSeen(x);
    }

    private static ShiftHouse shadowed() {
        ShiftHouse x = running();
        x.crash(0);
        x.finish();
        x.crash(4);
        return x;
    }

    private static ShiftHouse downWithoutNote() {
        ShiftHouse x = stable();
        x.crash(1);
        x.write(1, false);
        x.crash(3);
        return x;
    }

    private static ShiftHouse downWithNote() {
        ShiftHouse x = running();
        x.crash(2);
        x.write(1, true);
        x.crash(5);
        return x;
    }

    private static ShiftHouse full() {
        ShiftHouse x = new ShiftHouse();
        for (int key = 1; key <= 40; key++) {
            x.write(key, false);
        }
        return x;
    }

    private static ShiftHouse fullAndRunning() {
        ShiftHouse x = full();
        x.plan(ADD, 1, INT, 0, 0);
        x.begin();
        return x;
    }

    private static ShiftHouse fullAndDown() {
        ShiftHouse x = full();
        x.crash(1);
        x.write(1, false);
        return x;
    }

    private static ShiftHouse inVersion30(boolean isShadowed) {
        ShiftHouse x = new ShiftHouse();
        x.write(1, false);
        for (int v = 0; v < 30; v++) {
            x.plan(v % 2 == 0 ? ADD : DROP, 1, INT, 0, v);
            x.begin();
            if (isShadowed && v == 29) {
                x.write(1, true);
            }
            x.finish();
        }
        x.plan(ADD, 1, INT, 0, 0);
        return x;
    }

    private static ShiftHouse withSixSteps() {
        ShiftHouse x = Houses.withKeys(1, 2);
        for (int name = 1; name <= 6; name++) {
            x.plan(ADD, name, INT, 0, name);
        }
        return x;
    }

    private static ShiftHouse withWrongStep() {
        ShiftHouse x = Houses.withKeys(1, 2);
        x.plan(ADD, 1, INT, 0, 0);
        x.plan(DROP, 2, 0, 0, 0);
        return x;
    }

    private static ShiftHouse withAllLetters() {
        return withLetters("abcdefghijklmnopqrstuvwx");
    }

    private static ShiftHouse withLetters(String text) {
        ShiftHouse x = Houses.withColumns(INT, TEXT);
        Houses.lettersOf(x, 1, text);
        return x;
    }

    private static List<Supplier<ShiftHouse>> starts() {
        return List.of(ShiftHouse::new, BoundaryRefusalRuns::stable, BoundaryRefusalRuns::running,
            BoundaryRefusalRuns::shadowed, BoundaryRefusalRuns::downWithoutNote, BoundaryRefusalRuns::downWithNote,
            BoundaryRefusalRuns::full, BoundaryRefusalRuns::fullAndRunning, BoundaryRefusalRuns::fullAndDown,
            () -> inVersion30(false), () -> inVersion30(true), BoundaryRefusalRuns::withSixSteps,
            BoundaryRefusalRuns::withWrongStep, BoundaryRefusalRuns::withAllLetters,
            () -> withLetters("abcdefghijklmnopq"));
    }

    private static Map<String, ToIntFunction<ShiftHouse>> calls() {
        Map<String, ToIntFunction<ShiftHouse>> calls = new LinkedHashMap<>();
        calls.put("plan of no kind", x -> x.plan(4, 1, 1, 0, 0));
        calls.put("plan below all kinds", x -> x.plan(-1, 1, 1, 0, 0));
        calls.put("plan of no name", x -> x.plan(DROP, 64, 0, 0, 0));
        calls.put("plan of no type", x -> x.plan(ADD, 30, 5, 0, 0));
        calls.put("plan to no name", x -> x.plan(Houses.RENAME, 0, -1, 0, 0));
        calls.put("plan", x -> x.plan(ADD, 30, 0, 0, 0));
        calls.put("draft below", x -> x.draft(-1, 9, 9));
        calls.put("draft above", x -> x.draft(8, 9, 9));
        calls.put("letters below", x -> x.letters(-1, 9, 9));
        calls.put("letters above", x -> x.letters(8, 9, 9));
        calls.put("letters", x -> x.letters(1, 0, 0x58));
        calls.put("letters of eight", x -> x.letters(1, 0x61626364, 0x65666768));
        calls.put("write", x -> x.write(41, false));
        calls.put("write next", x -> x.write(41, true));
        calls.put("write next over", x -> x.write(1, true));
        calls.put("remove", x -> x.remove(77));
        calls.put("read", x -> x.read(1, false));
        calls.put("read next", x -> x.read(3, true));
        calls.put("more", x -> x.more(0, true));
        calls.put("begin", ShiftHouse::begin);
        calls.put("finish", ShiftHouse::finish);
        calls.put("rollback", ShiftHouse::rollback);
        calls.put("backfill", ShiftHouse::backfill);
        calls.put("crash below", x -> x.crash(-1));
        calls.put("crash above", x -> x.crash(1001));
        calls.put("restart", ShiftHouse::restart);
        calls.put("count below", x -> x.count(-1));
        calls.put("count above", x -> x.count(10));
        calls.put("count", x -> x.count(0));
        calls.put("column", x -> x.column(0, false));
        calls.put("column above", x -> x.column(8, false));
        calls.put("column next", x -> x.column(0, true));
        return calls;
    }

    // ---- refusals

    private static void refusedCallsChangeNothing() {
        Set<String> met = new TreeSet<>();
        List<Supplier<ShiftHouse>> starts = starts();
        for (int s = 0; s < starts.size(); s++) {
            for (Map.Entry<String, ToIntFunction<ShiftHouse>> call : calls().entrySet()) {
                int answer = call.getValue().applyAsInt(starts.get(s).get());
                if (answer < 0 && answer != -9) {
                    met.add(call.getKey().split(" ")[0] + " " + answer);
                    String told = call.getKey() + " in house " + s + ", refused by " + answer;
                    Twins.answerAlike(told, starts.get(s), x -> call.getValue().applyAsInt(x));
                }
            }
        }
        String[] due = {
            "plan -1", "plan -4", "draft -1", "letters -1", "letters -4", "write -8", "write -2", "write -4",
            "remove -8", "remove -3", "read -8", "read -2", "more -8", "begin -8", "begin -2", "begin -4",
            "begin -11", "finish -8", "finish -2", "rollback -8", "rollback -2", "backfill -8", "crash -1",
            "restart -2", "count -1", "count -8", "column -8", "column -2", "column -1"};
        for (String refusal : due) {
            Due.is("the test has met " + refusal, met.contains(refusal), true);
        }
    }

    private static void whichIsFirst() {
        ShiftHouse six = withSixSteps();
        Due.is("plan: a wrong input ahead of too many", six.plan(ADD, 64, INT, 0, 0), -1);
        ShiftHouse letters = withAllLetters();
        Due.is("letters: no cell ahead of too many", letters.letters(8, -1, -1), -1);
        firstOfRows();
        firstOfBegin();
        firstOfQuestions();
    }

    private static void firstOfRows() {
        Due.is("write: DOWN ahead of no migration", fullAndDown().write(1, true), -8);
        Due.is("write: DOWN ahead of too many", fullAndDown().write(41, false), -8);
        Due.is("write: no migration ahead of too many", full().write(41, true), -2);
        ShiftHouse x = full();
        x.crash(1);
        Due.is("write: too many ahead of a crash", x.write(41, false), -4);
        Due.is("write: no migration ahead of a crash", x.write(1, true), -2);
        Due.is("remove: none ahead of a crash", x.remove(41), -3);
        Due.is("all of these left the crash told", x.remove(1), -9);
        Due.is("remove: DOWN ahead of none", fullAndDown().remove(41), -8);
        Due.is("read: DOWN ahead of no migration", fullAndDown().read(1, true), -8);
    }

    private static void firstOfBegin() {
        ShiftHouse down = fullAndDown();
        Due.is("begin: DOWN ahead of an empty PLAN", down.begin(), -8);
        Due.is("finish: DOWN ahead of no migration", down.finish(), -8);
        Due.is("rollback: DOWN ahead of no migration", down.rollback(), -8);
        Due.is("begin: SHADOWED ahead of version 30", inVersion30(true).begin(), -2);
        Due.is("begin: version 30", inVersion30(false).begin(), -4);
        ShiftHouse empty = inVersion30(false);
        empty.scrap();
        Due.is("begin: an empty PLAN ahead of version 30", empty.begin(), -2);
        empty.plan(DROP, 50, 0, 0, 0);
        Due.is("begin: version 30 ahead of a WRONG step", empty.begin(), -4);
        empty.crash(1);
        Due.is("begin: version 30 ahead of a crash", empty.begin(), -4);
        ShiftHouse running = running();
        running.scrap();
        Due.is("begin: RUNNING, and an empty PLAN", running.begin(), -2);
        running.plan(DROP, 50, 0, 0, 0);
        Due.is("begin: RUNNING ahead of a WRONG step", running.begin(), -2);
        ShiftHouse behind = shadowed();
        behind.plan(DROP, 50, 0, 0, 0);
        Due.is("begin: SHADOWED ahead of a WRONG step", behind.begin(), -2);
        ShiftHouse wrong = withWrongStep();
        wrong.crash(1);
        Due.is("begin: a WRONG step ahead of a crash", wrong.begin(), -11);
        Due.is("finish: no migration ahead of a crash", wrong.finish(), -2);
        Due.is("rollback: no migration ahead of a crash", wrong.rollback(), -2);
        Due.is("restart: up ahead of a crash", wrong.restart(), -2);
    }

    private static void firstOfQuestions() {
        ShiftHouse down = downWithoutNote();
        Due.is("count: no such what ahead of DOWN", down.count(10), -1);
        Due.is("count: no such what ahead of DOWN, below", down.count(-1), -1);
        Due.is("column: DOWN ahead of no migration", down.column(0, true), -8);
        Due.is("column: DOWN ahead of no such column", down.column(-1, false), -8);
        Due.is("column: no migration ahead of no such column", stable().column(-1, true), -2);
    }

    // ---- the PLAN and the DRAFT

    private static void thePlan() {
        ShiftHouse x = Houses.withKeys(1);
        x.plan(ADD, 5, INT, 0, 3);
        Due.is("none RUNS yet", x.count(1), 0);
        Due.is("THE SCHEMA is as before", x.count(2), 1);
        Due.is("begin", x.begin(), 2);
        x.plan(ADD, 6, INT, 0, 4);
        Due.is("a PLAN while RUNNING is another one", x.count(3), 2);
        x.finish();
        Due.is("and is there behind finish", x.count(8), 1);
        Due.is("to begin", x.begin(), 3);
        Due.isRow("with its step", x, 1, true, 1, 3, 4);
    }

    private static void planAndDraftStay() {
        ShiftHouse x = Houses.runningWithKeys(1);
        x.plan(ADD, 30, INT, 0, 8);
        x.draft(0, 0, 44);
        x.letters(1, 0, 0x41);
        for (int n = 1; n <= 4; n++) {
            x.crash(n);
            x.write(1, false);
            x.crash(2);
            x.restart();
            Due.is("the PLAN when DOWN or up", x.count(8), 1);
            Due.is("the letters when DOWN or up", x.letters(1, 0, 0), 1);
            x.restart();
        }
        x.write(2, false);
        Due.isRow("the DRAFT", x, 2, false, 44);
        x.rollback();
        Due.is("the PLAN begins", x.begin(), 2);
        Due.isRow("with its step", x, 2, true, 44, 8);
        ShiftHouse y = Houses.withColumns(INT, TEXT);
        y.crash(1);
        y.write(1, false);
        Due.is("plan when DOWN", y.plan(DROP, 0, 0, 0, 0), 1);
        Due.is("draft when DOWN", y.draft(0, 0, 7), 1);
        Due.is("letters when DOWN", y.letters(1, 0, 0x4243), 2);
        y.restart();
        y.write(1, false);
        Due.isRow("told when DOWN", y, 1, false, 7, 2);
        Due.is("begun behind it", y.begin(), 1);
    }

    private static void theDraft() {
        ShiftHouse x = Houses.withColumns(3, 3, 3, 3, 3, 3, 3, 3);
        for (int i = 0; i < 8; i++) {
            Due.is("cell " + i, x.draft(i, 0, 10 + i), 1);
        }
        Due.is("no ninth", x.draft(8, 0, 18), -1);
        x.write(1, false);
        Due.isRow("8 values", x, 1, false, 10, 11, 12, 13, 14, 15, 16, 17);
        x.write(2, false);
        Due.isRow("the same again", x, 2, false, 10, 11, 12, 13, 14, 15, 16, 17);
        x.draft(7, 0, 70);
        Due.isRow("a row is apart from the DRAFT", x, 2, false, 10, 11, 12, 13, 14, 15, 16, 17);
    }

    private static void cellsOfColumns() {
        ShiftHouse x = Houses.withColumns(INT, Houses.FLAG, Houses.SHORT);
        for (int i = 0; i < 3; i++) {
            x.draft(i, 0, 0x18001);
            x.letters(i, 0, 0x39);
        }
        x.write(1, false);
        Due.isRow("by the column's type, whatever letters", x, 1, false, 0x18001, 1, -32767);
        x.plan(DROP, 0, 0, 0, 0);
        x.begin();
        x.draft(0, 0, 2);
        x.write(1, true);
        Due.isRow("column i of THE NEXT SCHEMA has cell i", x, 1, true, 0, -32767);
    }

    private static void lettersOfText() {
        ShiftHouse x = Houses.withColumns(TEXT, TEXT);
        x.draft(0, 0, 0x4142);
        x.draft(1, 0, 0x43);
        x.letters(1, 0, 0x44);
        x.write(1, false);
        x.read(1, false);
        Due.isText("no letters", x, 0, "AB");
        Due.isText("letters", x, 1, "D");
        x.letters(0, 0, 0);
        x.draft(1, 0, 0x45);
        x.write(1, false);
        x.read(1, false);
        Due.isText("no letters were added", x, 0, "AB");
        Due.isText("draft took them away", x, 1, "E");
    }
}
