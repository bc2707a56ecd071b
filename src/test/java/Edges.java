import java.math.BigInteger;

/**
 * A frame for tests of single sentences of the document: each bears the sentence that it holds the
 * class to (the promise's number ahead), and is told by it when it fails.
 */
final class Edges {
    static final int NONE = -1;

    interface Call {
        long answer();
    }

    private static final String[] KINDS = {"IndexOutOfBoundsException", "IllegalArgumentException",
        "IllegalStateException"};

    private static int tests = 0;
    private static int failed = 0;
    private static String sentence = "";
    private static boolean holds = true;

    private Edges() {
    }

    static void of(String told, Runnable test) {
        tests++;
        sentence = told;
        holds = true;
        try {
            test.run();
        } catch (RuntimeException e) {
            fail("threw " + e);
        }
        if (!holds) {
            failed++;
        }
    }

    /** Tells how many sentences hold; ends with exit code 1 if one does not. */
    static void done() {
        System.out.println(tests + " sentences, " + failed + " do not hold");
        if (failed != 0 || tests == 0) {
            System.exit(1);
        }
    }

    static void fail(String what) {
        holds = false;
        StringBuilder lines = new StringBuilder();
        for (StackTraceElement at : new Throwable().getStackTrace()) {
            if (at.getFileName() != null && at.getFileName().endsWith("EdgeTest.java")) {
                lines.append(' ').append(at.getLineNumber());
            }
        }
        System.out.println("does not hold: " + sentence + " (lines" + lines + "): " + what);
    }

    static void due(long got, long want) {
        if (got != want) {
            fail("answered " + got + ", due is " + want);
        }
    }

    static void due(boolean got, boolean want) {
        if (got != want) {
            fail("answered " + got + ", due is " + want);
        }
    }

    /** The answers of a call for 0, 1, 2, .. */
    static void row(java.util.function.IntToLongFunction call, long... want) {
        for (int i = 0; i < want.length; i++) {
            long got = call.applyAsLong(i);
            if (got != want[i]) {
                fail("for " + i + " answered " + got + ", due is " + want[i]);
            }
        }
    }

    static void index(LotBeliefs x, Call call) {
        refused(x, 0, call);
    }

    static void argument(LotBeliefs x, Call call) {
        refused(x, 1, call);
    }

    static void state(LotBeliefs x, Call call) {
        refused(x, 2, call);
    }

    /** The call throws just what is due, and status counts this one refusal and no other. */
    static void refused(LotBeliefs x, int kind, Call call) {
        int[] before = {x.status(0), x.status(1), x.status(2)};
        String got = "nothing";
        try {
            call.answer();
        } catch (RuntimeException e) {
            got = e.getClass().getSimpleName();
        }
        if (!got.equals(KINDS[kind])) {
            fail("threw " + got + ", due is " + KINDS[kind]);
        }
        for (int i = 0; i < before.length; i++) {
            due(x.status(i), before[i] + (i == kind ? 1 : 0));
        }
    }

    /** An argument that is let through from the least to the most, and refused on both sides. */
    static void between(LotBeliefs x, int least, int most, java.util.function.IntToLongFunction call) {
        call.applyAsLong(least);
        call.applyAsLong(most);
        for (int wrong : new int[] {least - 1, most + 1, Integer.MIN_VALUE, Integer.MAX_VALUE}) {
            argument(x, () -> call.applyAsLong(wrong));
        }
    }

    /** A SLIP or SEEING by number: so many are let through, others refused, whatever else is wrong. */
    static void numbered(LotBeliefs x, int many, java.util.function.IntToLongFunction call) {
        for (int wrong : new int[] {-1, many, many + 1, 12, 13, Integer.MIN_VALUE, Integer.MAX_VALUE}) {
            if (wrong < 0 || wrong >= many) {
                index(x, () -> call.applyAsLong(wrong));
            }
        }
    }

    static LotBeliefs with(String jar) {
        LotBeliefs x = new LotBeliefs();
        if (Feeder.jar(x, jar) < 0) {
            fail("a jar is not read, fault at " + x.fault() + ": " + jar);
        }
        return x;
    }

    static LotBeliefs with(String jar, String tongue) {
        LotBeliefs x = with(jar);
        if (Feeder.tongue(x, tongue) < 0) {
            fail("a tongue is not read, fault at " + x.fault() + ": " + tongue);
        }
        return x;
    }

    static LotBeliefs asking(String jar, String question) {
        LotBeliefs x = with(jar);
        if (Feeder.question(x, question) < 0) {
            fail("a question is not read, fault at " + x.fault() + ": " + question);
        }
        return x;
    }

    /** The ORDER drawn by a SEED, reckoned with numbers of any length. */
    static int[] lot(int slips, int seed) {
        int[] row = new int[slips];
        for (int i = 0; i < slips; i++) {
            row[i] = i;
        }
        BigInteger word = BigInteger.ONE.shiftLeft(32);
        BigInteger s = BigInteger.valueOf(seed).mod(word);
        for (int places = slips; places >= 2; places--) {
            s = s.multiply(BigInteger.valueOf(1103515245)).add(BigInteger.valueOf(12345)).mod(word);
            int other = s.shiftRight(16).mod(BigInteger.valueOf(32768)).mod(BigInteger.valueOf(places)).intValue();
            int slip = row[places - 1];
            row[places - 1] = row[other];
            row[other] = slip;
        }
        return row;
    }
}
