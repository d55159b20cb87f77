/** Promises 41 to 48: the pond, another rule, shoulders, years, and what is kept and counted. */
public final class GamesTest {
    private static final Check check = new Check("GamesTest");

    public static void main(String[] args) {
        pond();
        pondByPlay();
        anotherRule();
        shoulders();
        years();
        yearsChangeNothing();
        kept();
        counted();
        rows();
        check.finish();
    }

    private static void pond() {
        check.promise(41, "pond");
        PramGardens g = new PramGardens();
        check.is("pond(3, 0, 0)", g.pond(3, 0, 0), 1);
        check.row("pond(3, 0, 0)", g, 0, 3);
        check.is("pond(4, 4, 4)", g.pond(4, 4, 4), 0);
        check.row("pond(4, 4, 4)", g);
        check.is("pond(1, 2, 1)", g.pond(1, 2, 1), 1);
        check.row("pond(1, 2, 1)", g, 1, 2);
        check.is("pond(0, 0, 9)", g.pond(0, 0, 9), 1);
        check.row("pond(0, 0, 9)", g, 2, 1);
        int[][] wrong = {{-1, 0, 0}, {10, 0, 0}, {0, -1, 0}, {0, 10, 0}, {0, 0, -1}, {0, 0, 10}};
        for (int[] one : wrong) {
            check.is("pond() of others", g.pond(one[0], one[1], one[2]), -1);
        }
        check.row("the ROW stays", g, 2, 1);
    }

    private static void pondByPlay() {
        check.promise(41, "pond");
        boolean[][][] wins = new boolean[10][10][10];
        for (int i = 0; i < 1000; i++) {
            // an object is asked 512 times at most
            PramGardens g = new PramGardens();
            int[] heaps = {i / 100, i / 10 % 10, i % 10};
            long[] move = {};
            for (int heap = 2; heap >= 0; heap--) {
                for (int take = Math.min(3, heaps[heap]); take >= 1; take--) {
                    heaps[heap] -= take;
                    if (!wins[heaps[0]][heaps[1]][heaps[2]]) {
                        move = new long[] {heap, take};
                    }
                    heaps[heap] += take;
                }
            }
            wins[heaps[0]][heaps[1]][heaps[2]] = move.length > 0;
            String call = "pond(" + heaps[0] + ", " + heaps[1] + ", " + heaps[2] + ")";
            check.is(call, g.pond(heaps[0], heaps[1], heaps[2]), move.length > 0 ? 1 : 0);
            check.row(call, g, move);
        }
    }

    private static void anotherRule() {
        check.promise(42, "law");
        PramGardens g = Check.garden("22.a..", "");
        check.is("without PRAMS", Check.write(g, "1").law(), -2);
        check.is("THE TEXT first", Check.write(g, "1+").law(), -10002);
        Check.write(g, "000;001").prams();
        // a is seen from the FIELD beside it and the one below it
        check.is("by 1", Check.write(g, "1").law(), 0);
        check.row("by 1", g, 2, 2);
        check.is("by 0", Check.write(g, "0").law(), -2);
        check.row("by 0", g, 0, 2);
        check.is("by h=1", Check.write(g, "h=1").law(), -1);
        check.row("by h=1", g, 1, 2);
        check.is("by none", Check.write(g, "").law(), 0);
        check.row("by none", g, 2, 2);
        check.is("THE TEXT behind it", g.count(12), 0);
        Check.withRule(g, "h=1");
        check.is("less by THE RULE", Check.write(g, "").law(), 1);
        check.row("less by THE RULE", g, 2, 1);
        check.is("others where they are", Check.write(g, "k").law(), 0);
        check.row("others where they are", g, 1, 1);
        check.is("THE RULE stays", g.stands(0), 1);
        check.row("THE RULE stays", g, 1, 1);
        String[] wrong = {"x", "1+", "1<2<3", "(((((", "-".repeat(41), "z1"};
        int[] place = {0, 2, 3, 4, 40, 0};
        for (int i = 0; i < wrong.length; i++) {
            check.is("law() of " + wrong[i], Check.write(g, wrong[i]).law(), -10000 - place[i]);
            check.is("THE TEXT behind it", g.count(12), 0);
        }
        check.row("the ROW stays", g, 1, 1);
        g.sheet(0, 1, 1, 0);
        check.is("VIEWS of PRAM 0 as they are", Check.write(g, "1").law(), 0);
        check.row("VIEWS of PRAM 0 as they are", g, 0, 0);
        PramGardens row = Check.garden("26abcdef......", "100");
        // of 30 pairs in the row the 24 that are 3 off at most, and 6 from below
        check.is("more by 1", Check.write(row, "1").law(), 6);
        check.row("more by 1", row, 36, 30);
    }

    private static void shoulders() {
        check.promise(43, "shoulders");
        PramGardens g = new PramGardens();
        // to 8 none turns; from 9 on all pairs of 9 hold; at 9 both do
        for (int v = 0; v <= 20; v++) {
            check.is("shoulders(" + v + ")", g.shoulders(v), v < 9 ? 1 : v == 9 ? 11 : 10);
            check.row("shoulders(" + v + ")", g, 0, v < 10 ? 0 : 9);
        }
        check.is("shoulders(21)", g.shoulders(21), -1);
        check.is("shoulders(-1)", g.shoulders(-1), -1);
        check.row("the ROW stays", g, 0, 9);
    }

    private static int chance;

    private static int draw(int n) {
        chance = chance * 1103515245 + 12345;
        return (int) ((chance & 0xffffffffL) / 65536 % n);
    }

    /** The same draws done by the calls themselves on a twin. */
    private static int yearsByCalls(PramGardens twin, int seed, int n) {
        chance = seed;
        int formed = 0;
        for (int i = 0; i < n; i++) {
            int what = draw(4);
            if (what == 3) {
                twin.minutes(1);
                formed += (int) twin.row(1);
            } else if (twin.count(2) > 0) {
                int pram = draw(twin.count(2));
                if (what == 2) {
                    twin.looses(pram);
                } else {
                    formed += Integer.bitCount(Math.max(0, twin.pushes(pram, draw(4))));
                }
            }
        }
        return formed;
    }

    private static void years() {
        check.promise(44, "years");
        String[] prams = {"", "000", "000;111", "000;111;222;553"};
        int formedEver = 0;
        int looseEver = 0;
        for (String told : prams) {
            for (int seed = -3; seed < 40; seed++) {
                int n = 1 + (seed + 3) * 7 % 60;
                String gardens = "66" + "a.1.2b" + "..#.2." + "c1.33." + "0.d..." + ".#..1." + "e.0f..";
                PramGardens twin = Check.garden(gardens, told);
                PramGardens g = Check.garden(gardens, told);
                int due = yearsByCalls(twin, seed * 77777777, n);
                int views = 0;
                for (int pram = 0; pram < twin.count(2); pram++) {
                    views |= twin.pram(pram, 2);
                }
                check.is("years()", g.years(seed * 77777777, n), due);
                check.row("years()", g, Integer.bitCount(twin.count(6)), views);
                formedEver += due;
                looseEver |= twin.count(6);
            }
        }
        check.is("VIEWS were formed at all", formedEver > 0, true);
        check.is("some were LOOSE at all", looseEver != 0, true);
        PramGardens g = new PramGardens();
        check.is("n 0", g.years(1, 0), -1);
        check.is("n -1", g.years(1, -1), -1);
        check.is("n 61", g.years(1, 61), -1);
        check.is("n 60", g.years(1, 60), 0);
    }

    private static void yearsChangeNothing() {
        check.promise(44, "years");
        PramGardens g = Check.garden("33a.b.#...c", "200;000");
        g.faces(1, 1);
        check.is("years(9, 60)", g.years(9, 60) > 0, true);
        check.is("MINUTE stays", g.count(5), 0);
        check.is("LOOSE stays", g.count(6), 0);
        check.is("VIEWS stay", g.count(7), 1);
        check.is("FIELD stays", g.pram(0, 0), 6);
        check.is("what can be undone stays", g.count(10), 1);
    }

    private static void kept() {
        check.promise(45, "keep");
        PramGardens g = Check.garden("33a.b.#...c", "200;000");
        g.pushes(0, 1);
        g.looses(1);
        g.minutes(0);
        check.is("keep(3)", g.keep(3), false);
        check.is("keep(-1)", g.keep(-1), false);
        check.is("keep(0)", g.keep(0), true);
        check.is("keep() can't be undone", g.count(10), 3);
        check.promise(46, "again");
        check.is("again(1): nothing kept", g.again(1), false);
        check.is("again(3)", g.again(3), false);
        check.is("again(-1)", g.again(-1), false);
        check.is("refused ones forget nothing", g.count(10), 3);
        g.minutes(4);
        g.pushes(0, 3);
        g.pushes(0, 0);
        check.is("keep(2)", g.keep(2), true);
        check.is("again(0)", g.again(0), true);
        check.is("FIELD", g.pram(0, 0), 7);
        check.is("WAY", g.pram(0, 1), 1);
        check.is("VIEWS", g.pram(0, 2), 4);
        check.is("LOOSE", g.count(6), 2);
        check.is("MINUTE", g.count(5), 0);
        check.is("nothing can be undone", g.count(10), 0);
        check.is("undo()", g.undo(), -1);
        check.is("again(2)", g.again(2), true);
        check.is("FIELD", g.pram(0, 0), 3);
        check.is("MINUTE", g.count(5), 4);
        check.is("again(0), once more", g.again(0), true);
        g.minutes(1);
        check.is("keep(0) anew", g.keep(0), true);
        g.minutes(1);
        check.is("again(0)", g.again(0), true);
        check.is("MINUTE", g.count(5), 1);
        Check.write(g, "").prams();
        check.is("behind an empty prams()", g.again(0), true);
        Check.write(g, "000").prams();
        check.is("PRAMS came since", g.again(0), false);
        check.is("PRAMS came since", g.again(2), false);
        g.keep(0);
        Check.write(g, "22....").gardens();
        check.is("GARDENS came since", g.again(0), false);
        check.is("keep() without PRAMS", g.keep(1), true);
        g.minutes(7);
        check.is("again() without PRAMS", g.again(1), true);
        check.is("MINUTE", g.count(5), 0);
    }

    private static void counted() {
        check.promise(47, "count");
        PramGardens g = Check.garden("34a.b.#...c#ff", "200;000;011");
        g.looses(0);
        g.looses(2);
        g.sheet(0, 3, 3, 4);
        g.minutes(9);
        g.looses(2);
        g.saw(1, 1, 1);
        g.heard(1, 1);
        g.heard(1, 1);
        Check.write(g, "hello");
        int[] due = {3, 4, 3, 10, 39, 9, 4, 8, 1, 2, 4, 2, 5};
        for (int what = 0; what < due.length; what++) {
            check.is("count(" + what + ")", g.count(what), due[what]);
        }
        check.is("count(13)", g.count(13), -100);
        check.is("count(-1)", g.count(-1), -100);
        check.is("count(min)", g.count(Integer.MIN_VALUE), -100);
    }

    private static void rows() {
        check.promise(48, "row");
        PramGardens g = new PramGardens();
        check.throwsNone("row(0) of none", () -> g.row(0));
        g.laws();
        check.is("row(0)", g.row(0), 1);
        check.is("row(1)", g.row(1), 0);
        check.throwsNone("row(2)", () -> g.row(2));
        check.throwsNone("row(-1)", () -> g.row(-1));
        check.throwsNone("row(max)", () -> g.row(Integer.MAX_VALUE));
        check.throwsNone("row(min)", () -> g.row(Integer.MIN_VALUE));
        g.saw(1, 1, 1);
        g.denies();
        g.count(0);
        g.keep(0);
        g.again(0);
        check.is("calls that do not say so leave it", g.count(11), 2);
        g.pond(0, 0, 0);
        check.is("one that tells nothing empties it", g.count(11), 0);
    }
}
