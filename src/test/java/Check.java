import java.util.Arrays;
import java.util.NoSuchElementException;

/** Counts answers that are not as due; finish() ends the test with exit code 1 if there was one. */
final class Check {
    interface Asked {
        long answer();
    }

    private final String test;
    private String promise = "";
    private int asked;
    private int wrong;

    Check(String test) {
        this.test = test;
    }

    void promise(int number, String name) {
        promise = "promise " + number + " (" + name + ")";
    }

    /** What is asked from here on belongs to a case, whose name tells promise and case. */
    void startCase(String name) {
        promise = name;
    }

    int faults() {
        return wrong;
    }

    void is(String call, long got, long due) {
        asked++;
        if (got != due) {
            fault(call + " answered " + got + ", due is " + due);
        }
    }

    void is(String call, boolean got, boolean due) {
        is(call, got ? 1 : 0, due ? 1 : 0);
    }

    /** The whole ROW: its numbers, how many count(11) tells, and that there is none behind or ahead of them. */
    void row(String call, PramGardens g, long... due) {
        asked++;
        long[] got = rowOf(g);
        if (!Arrays.equals(got, due)) {
            fault("the ROW of " + call + " is " + Arrays.toString(got) + ", due is " + Arrays.toString(due));
        }
        throwsNone("row(" + due.length + ")", () -> g.row(due.length));
        throwsNone("row(-1)", () -> g.row(-1));
    }

    /** Of each PRAM what pram() tells of it, from what 0 on. */
    void prams(PramGardens g, int[][] due) {
        is("PRAMS", g.count(2), due.length);
        for (int pram = 0; pram < due.length; pram++) {
            for (int what = 0; what < due[pram].length; what++) {
                is("pram(" + pram + ", " + what + ")", g.pram(pram, what), due[pram][what]);
            }
        }
    }

    static long[] rowOf(PramGardens g) {
        long[] row = new long[g.count(11)];
        for (int i = 0; i < row.length; i++) {
            row[i] = g.row(i);
        }
        return row;
    }

    void throwsNone(String call, Asked asked) {
        this.asked++;
        try {
            long got = asked.answer();
            fault(call + " answered " + got + ", due is NoSuchElementException");
        } catch (NoSuchElementException due) {
            // as it is due
        }
    }

    /** A call that is refused: its answer, and that nothing but THE TEXT changes by it, not even the ROW. */
    void refused(String call, PramGardens g, long due, Asked asked) {
        unchanged(call, g, true, () -> is(call, asked.answer(), due));
    }

    /** A call that reads THE TEXT and refuses it: as refused(), and THE TEXT is empty then. */
    void refusedText(String call, PramGardens g, String text, long due, Asked asked) {
        write(g, text);
        refused(call + " of '" + text + "'", g, due, asked);
        is("count(12) behind " + call + " of '" + text + "'", g.count(12), 0);
    }

    /** A question: its answer, and that nothing but the ROW changes by it. */
    void question(String call, PramGardens g, long due, Asked asked) {
        int signs = g.count(12);
        unchanged(call, g, false, () -> is(call, asked.answer(), due));
        is("count(12) behind " + call, g.count(12), signs);
    }

    private void unchanged(String call, PramGardens g, boolean withRow, Runnable asking) {
        asked++;
        String before = stateOf(g, withRow);
        asking.run();
        String behind = stateOf(g, withRow);
        if (!before.equals(behind)) {
            fault(call + " changed " + before + " into " + behind);
        }
    }

    /** All that can be asked for without a change, but THE TEXT and, if it is not wanted, the ROW. */
    private static String stateOf(PramGardens g, boolean withRow) {
        StringBuilder state = new StringBuilder("counts");
        for (int what = 0; what < 11; what++) {
            state.append(' ').append(g.count(what));
        }
        state.append(", prams");
        for (int pram = 0; pram < g.count(2); pram++) {
            for (int what = 0; what < 3; what++) {
                state.append(' ').append(g.pram(pram, what));
            }
        }
        return state.append(withRow ? ", row " + Arrays.toString(rowOf(g)) : "").toString();
    }

    void fault(String what) {
        wrong++;
        System.out.println(test + ", " + promise + ": " + what);
    }

    void finish() {
        System.out.println(test + ": " + asked + " answers asked, " + wrong + " not as due");
        if (wrong != 0) {
            System.exit(1);
        }
    }

    /** A new object with gardens, and prams (an empty text: none). */
    static PramGardens garden(String gardens, String prams) {
        PramGardens g = new PramGardens();
        if (write(g, gardens).gardens() < 0 || write(g, prams).prams() < 0) {
            throw new IllegalArgumentException("the test's own texts are wrong: " + gardens + ", " + prams);
        }
        return g;
    }

    /** THE TEXT is just this one. */
    static PramGardens write(PramGardens g, String text) {
        g.end(0);
        for (int i = 0; i < text.length(); i += 4) {
            int four = 0;
            for (int j = i; j < i + 4; j++) {
                four = four << 8 | (j < text.length() ? text.charAt(j) & 255 : 0);
            }
            g.sign(four);
        }
        g.end(text.length());
        return g;
    }

    static PramGardens withRule(PramGardens g, String rule) {
        if (write(g, rule).rule() < 0) {
            throw new IllegalArgumentException("the test's own rule is wrong: " + rule);
        }
        return g;
    }
}
