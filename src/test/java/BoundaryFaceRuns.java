import java.lang.reflect.Modifier;
import java.util.Random;
import java.util.Set;
import java.util.TreeSet;

/** The document's first line, 'The public face' and 'Not promised', sentence by sentence. */
public final class BoundaryFaceRuns {
    private static final String[] CALLS = {
        "ShiftHouse()",
        "int plan(int what, int name, int other, int a, int b)",
        "int scrap()",
        "int draft(int i, int a, int b)",
        "int letters(int i, int a, int b)",
        "int write(int key, boolean next)",
        "int remove(int key)",
        "int read(int key, boolean next)",
        "int seen()",
        "long value(int i)",
        "int letter(int i, int j)",
        "int next(int k, boolean isFirst)",
        "int more(int k, boolean isFirst)",
        "int begin()",
        "int finish()",
        "int rollback()",
        "int backfill()",
        "int crash(int n)",
        "int restart()",
        "boolean isDown()",
        "int count(int what)",
        "int column(int i, boolean next)",
    };
    private static final int[] ARGUMENTS = {Integer.MIN_VALUE, -1, 0, 1, 2, 3, 4, 5, 7, 8, 23, 24, 39, 40, 63, 64, 1000,
        1001, Integer.MAX_VALUE};

    public static void main(String[] args) {
        Part.between("# ShiftHouse", "## What it is")
            .holds("# ShiftHouse", () -> Due.is("its name", ShiftHouse.class.getName().equals("ShiftHouse"), true))
            .end();
        Part face = Part.between("## The public face", "## Terms")
            .skip("## The public face")
            .holds("public final class ShiftHouse {", BoundaryFaceRuns::publicAndFinal);
        for (String call : CALLS) {
            face.holds("public " + call + ";", () -> Due.is(call + " is there", Face.has(call), true));
        }
        face.holds("}", BoundaryFaceRuns::noOtherCalls).end();
        Part.from("## Not promised")
            .skip("## Not promised")
            .skip("How the state is held inside the object is free, as are the speed of each call, the text of toString"
                + " and the behaviour of equals and hashCode.")
            .holds("Use of one object from several threads at once is not promised to be safe.",
                BoundaryFaceRuns::housesOfSeveralThreads)
            .skip("Nothing is promised beyond the answers and state changes described above")
            .holds("and nothing about an object after its 512th call.", BoundaryFaceRuns::anyCallEnds)
            .end();
        partsAreAllKnown();
        Due.end();
    }

    private static void publicAndFinal() {
        Due.is("public and final", ShiftHouse.class.getModifiers(), Modifier.PUBLIC | Modifier.FINAL);
        Due.is("it has no package", ShiftHouse.class.getPackageName().isEmpty(), true);
    }

    private static void noOtherCalls() {
        Set<String> others = new TreeSet<>(Face.calls());
        for (String call : CALLS) {
            others.remove(Face.withoutNames(call));
        }
        Due.is("other public calls: " + others, others.size(), 0);
        Due.is("public fields", ShiftHouse.class.getFields().length, 0);
        Due.is("public classes inside", ShiftHouse.class.getClasses().length, 0);
    }

    /** One object is for one thread, but each thread may have its own: they share nothing. */
    private static void housesOfSeveralThreads() {
        int[] sums = new int[4];
        Thread[] threads = new Thread[sums.length];
        for (int t = 0; t < threads.length; t++) {
            int own = t;
            threads[t] = new Thread(() -> sums[own] = sumOfManyHouses());
            threads[t].start();
        }
        for (Thread thread : threads) {
            join(thread);
        }
        int alone = sumOfManyHouses();
        for (int sum : sums) {
            Due.is("all answers beside other threads, summed up", sum, alone);
        }
    }

    private static void join(Thread thread) {
        try {
            thread.join();
        } catch (InterruptedException e) {
            throw new IllegalStateException(e);
        }
    }

    private static int sumOfManyHouses() {
        int sum = 0;
        for (int seed = 0; seed < 200; seed++) {
            Random random = new Random(seed);
            ShiftHouse x = new ShiftHouse();
            for (int call = 0; call < 500; call++) {
                sum = 31 * sum + (int) callAny(x, random);
            }
        }
        return sum;
    }

    /** Its answers are free; but each call gives one (rule 7 of LANGUAGE.md). */
    private static void anyCallEnds() {
        for (int seed = 0; seed < 100; seed++) {
            Random random = new Random(seed);
            ShiftHouse x = new ShiftHouse();
            int ended = 0;
            for (int call = 0; call < 5000; call++) {
                callAny(x, random);
                ended++;
            }
            Due.is("calls that ended", ended, 5000);
        }
    }

    private static long callAny(ShiftHouse x, Random random) {
        int i = argument(random);
        int j = argument(random);
        boolean flag = random.nextBoolean();
        return switch (random.nextInt(24)) {
            case 0, 1 -> x.plan(argument(random), i, j, argument(random), argument(random));
            case 2 -> x.scrap();
            case 3 -> x.draft(i, j, argument(random));
            case 4 -> x.letters(i, j, argument(random));
            case 5, 6 -> x.write(i, flag);
            case 7 -> x.remove(i);
            case 8 -> x.read(i, flag);
            case 9 -> x.seen();
            case 10 -> x.value(i);
            case 11 -> x.letter(i, j);
            case 12 -> x.next(i, flag);
            case 13 -> x.more(i, flag);
            case 14, 15 -> x.begin();
            case 16 -> x.finish();
            case 17 -> x.rollback();
            case 18 -> x.backfill();
            case 19 -> x.crash(i);
            case 20 -> x.restart();
            case 21 -> x.isDown() ? 1 : 0;
            case 22 -> x.count(i);
            default -> x.column(i, flag);
        };
    }

    private static int argument(Random random) {
        return random.nextInt(4) == 0 ? random.nextInt(6) : ARGUMENTS[random.nextInt(ARGUMENTS.length)];
    }

    /** A heading more would be a part of the document that no test goes through. */
    private static void partsAreAllKnown() {
        if (Part.isThereADocument()) {
            Due.is("promises of the document", Part.headings("## Promise "), CALLS.length);
            Due.is("other headings: What it is, The public face, Terms, Not promised",
                Part.headings("## ") - Part.headings("## Promise "), 4);
        }
    }
}
