import java.util.Arrays;
import java.util.NoSuchElementException;

/** Counts answers that are not as due; finish() ends the test with exit code 1 if there was one. */
final class Check {
    interface Asked {
        long answer();
    }

    private final String test;
    private String promise = "";
    private int asked;
    private int wrong;

    Check(String test) {
        this.test = test;
    }

    void promise(int number, String name) {
        promise = "promise " + number + " (" + name + ")";
    }

    void is(String call, long got, long due) {
        asked++;
        if (got != due) {
            fault(call + " answered " + got + ", due is " + due);
        }
    }

    void is(String call, boolean got, boolean due) {
        is(call, got ? 1 : 0, due ? 1 : 0);
    }

    /** The whole ROW: its numbers, how many count(11) tells, and that there is none behind or ahead of them. */
    void row(String call, PramGardens g, long... due) {
        asked++;
        long[] got = rowOf(g);
        if (!Arrays.equals(got, due)) {
            fault("the ROW of " + call + " is " + Arrays.toString(got) + ", due is " + Arrays.toString(due));
        }
        throwsNone("row(" + due.length + ")", () -> g.row(due.length));
        throwsNone("row(-1)", () -> g.row(-1));
    }

    static long[] rowOf(PramGardens g) {
        long[] row = new long[g.count(11)];
        for (int i = 0; i < row.length; i++) {
            row[i] = g.row(i);
        }
        return row;
    }

    void throwsNone(String call, Asked asked) {
        this.asked++;
        try {
            long got = asked.answer();
            fault(call + " answered " + got + ", due is NoSuchElementException");
        } catch (NoSuchElementException due) {
            // as it is due
        }
    }

    private void fault(String what) {
        wrong++;
        System.out.println(test + ", " + promise + ": " + what);
    }

    void finish() {
        System.out.println(test + ": " + asked + " answers asked, " + wrong + " not as due");
        if (wrong != 0) {
            System.exit(1);
        }
    }

    /** A new object with gardens, and prams (an empty text: none). */
    static PramGardens garden(String gardens, String prams) {
        PramGardens g = new PramGardens();
        if (write(g, gardens).gardens() < 0 || write(g, prams).prams() < 0) {
            throw new IllegalArgumentException("the test's own texts are wrong: " + gardens + ", " + prams);
        }
        return g;
    }

    /** THE TEXT is just this one. */
    static PramGardens write(PramGardens g, String text) {
        g.end(0);
        for (int i = 0; i < text.length(); i += 4) {
            int four = 0;
            for (int j = i; j < i + 4; j++) {
                four = four << 8 | (j < text.length() ? text.charAt(j) & 255 : 0);
            }
            g.sign(four);
        }
        g.end(text.length());
        return g;
    }

    static PramGardens withRule(PramGardens g, String rule) {
        if (write(g, rule).rule() < 0) {
            throw new IllegalArgumentException("the test's own rule is wrong: " + rule);
        }
        return g;
    }
}
