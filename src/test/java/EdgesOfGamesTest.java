/** The edges that promises 41 to 48 name: the pond, another rule, shoulders, years, what is kept, counts and the ROW. */
public final class EdgesOfGamesTest extends Cases {
    public static void main(String[] args) throws Exception {
        runAll(EdgesOfGamesTest.class);
    }

    // ---- promise 41: pond

    private static void pondIs(Check check, int a, int b, int c, long... move) {
        PramGardens g = new PramGardens();
        g.laws();
        String call = "pond(" + a + ", " + b + ", " + c + ")";
        check.is(call, g.pond(a, b, c), move.length > 0 ? 1 : 0);
        check.row(call, g, move);
    }

    static void p41_emptyHeapsAreLost(Check check) {
        pondIs(check, 0, 0, 0);
    }

    static void p41_oneToThreeOfOneHeap(Check check) {
        pondIs(check, 1, 0, 0, 0, 1);
        pondIs(check, 3, 0, 0, 0, 3);
        pondIs(check, 4, 0, 0);
        pondIs(check, 5, 0, 0, 0, 1);
        pondIs(check, 8, 0, 0);
        pondIs(check, 9, 0, 0, 0, 1);
    }

    static void p41_theLeastHeapAndTheLeastNumber(Check check) {
        // as good from each heap
        pondIs(check, 1, 1, 1, 0, 1);
        pondIs(check, 5, 5, 5, 0, 1);
        // of heap 0 by 2 alone, of heap 1 by none, of heap 2 by 1
        pondIs(check, 3, 0, 1, 0, 2);
        pondIs(check, 0, 3, 2, 1, 1);
        pondIs(check, 0, 0, 2, 2, 2);
        pondIs(check, 0, 0, 7, 2, 3);
        pondIs(check, 4, 4, 7, 0, 1);
    }

    static void p41_likeHeapsAreLost(Check check) {
        pondIs(check, 9, 9, 0);
        pondIs(check, 0, 7, 7);
        pondIs(check, 9, 0, 9);
    }

    static void p41_nineOfEach(Check check) {
        pondIs(check, 9, 9, 9, 0, 1);
    }

    static void p41_othersAreNone(Check check) {
        PramGardens g = new PramGardens();
        g.laws();
        int[][] others = {{-1, 0, 0}, {10, 0, 0}, {0, -1, 0}, {0, 10, 0}, {0, 0, -1}, {0, 0, 10}, {Integer.MAX_VALUE, 0, 0}};
        for (int[] one : others) {
            check.refused("pond(" + one[0] + ", " + one[1] + ", " + one[2] + ")", g, -1, () -> g.pond(one[0], one[1], one[2]));
        }
    }

    // ---- promise 42: law

    static void p42_withoutPrams(Check check) {
        PramGardens g = garden("22.a..", "");
        g.shoulders(20);
        check.refusedText("law()", g, "1", -2, g::law);
        check.refusedText("law()", g, "", -2, g::law);
    }

    static void p42_theTextIsAskedAheadOfPrams(Check check) {
        PramGardens g = garden("22.a..", "");
        check.refusedText("law()", g, "x", -10000, g::law);
        check.refusedText("law()", g, "1+", -10002, g::law);
    }

    static void p42_signsThatCantStand(Check check) {
        PramGardens g = garden("22.a..", "000");
        g.shoulders(20);
        check.refusedText("law()", g, "x", -10000, g::law);
        check.refusedText("law()", g, "1x", -10001, g::law);
        check.refusedText("law()", g, "1+", -10002, g::law);
        check.refusedText("law()", g, "1<2<3", -10003, g::law);
        check.refusedText("law()", g, "(((((", -10004, g::law);
        check.refusedText("law()", g, "1000", -10003, g::law);
    }

    static void p42_fortySignsCanStandAndNoMore(Check check) {
        PramGardens g = garden("22.a..", "000");
        check.is("40 signs", write(g, "-".repeat(38) + "10").law(), 0);
        check.row("40 signs", g, 2, 2);
        check.is("41 signs", write(g, "-".repeat(38) + "101").law(), -10040);
        check.is("40 signs that end too early", write(g, "-".repeat(40)).law(), -10040);
        check.is("a wrong one ahead of 41", write(g, "-".repeat(39) + "xx").law(), -10039);
    }

    static void p42_anEmptyTextIsNone(Check check) {
        PramGardens g = garden("26.....a......", "000", "9");
        // 5 from the left and 1 from below by 9; of 5 from the left the 3 that are near by none
        check.is("law()", write(g, "").law(), -2);
        check.row("law()", g, 4, 6);
    }

    static void p42_belowZeroAndAbove(Check check) {
        PramGardens g = garden("26.....a......", "000");
        check.is("by 9", write(g, "9").law(), 2);
        check.row("by 9", g, 6, 4);
        check.is("by 0", write(g, "0").law(), -4);
        check.row("by 0", g, 0, 4);
        check.is("by d=1", write(g, "d=1").law(), -2);
        check.row("by d=1", g, 2, 4);
        check.is("by d<4", write(g, "d<4").law(), 0);
        check.row("by d<4", g, 4, 4);
    }

    static void p42_viewsOfPramZeroAsTheyAre(Check check) {
        PramGardens g = garden("22.a..", "000;110");
        g.sheet(0, 2, 1, -1);
        check.is("with a VIEW of a", write(g, "1").law(), 0);
        check.row("with a VIEW of a", g, 0, 0);
        g.sheet(0, 2, 2, 1);
        check.is("by v=1", write(g, "v=1").law(), 0);
        check.row("by v=1", g, 2, 2);
        check.is("of PRAM 0 alone", write(g, "i=0").law(), 0);
        check.row("of PRAM 0 alone", g, 2, 2);
        check.is("others where they are", write(g, "k=1").law(), -1);
        check.row("others where they are", g, 1, 2);
    }

    static void p42_itChangesNeitherTheRuleNorViews(Check check) {
        PramGardens g = garden("22.a..", "001");
        write(g, "0").law();
        check.is("sees(0)", g.sees(0), 1);
        write(g, "1").law();
        check.is("VIEWS", g.count(7), 0);
        check.is("count(10)", g.count(10), 0);
        write(g, "x").law();
        check.is("sees(0) behind a refused one", g.sees(0), 1);
    }

    static void p42_wallsAreNoStands(Check check) {
        PramGardens g = garden("22#a.#", "100", "1");
        check.is("law()", write(g, "1").law(), 0);
        check.row("law()", g, 0, 0);
    }

    // ---- promise 43: shoulders

    static void p43_theLeastAndTheHighest(Check check) {
        PramGardens g = new PramGardens();
        check.is("shoulders(0)", g.shoulders(0), 1);
        check.row("shoulders(0)", g, 0, 0);
        check.is("shoulders(20)", g.shoulders(20), 10);
        check.row("shoulders(20)", g, 0, 9);
    }

    static void p43_otherNumbersAreNone(Check check) {
        PramGardens g = new PramGardens();
        g.laws();
        for (int v : new int[] {-1, 21, Integer.MAX_VALUE, Integer.MIN_VALUE}) {
            check.refused("shoulders(" + v + ")", g, -1, () -> g.shoulders(v));
        }
    }

    /** Told anew from the words of the promise. */
    private static int has(int v, int own, int other) {
        int sum = own + other >= 9 ? v - own : -own;
        return own < other ? sum + (other - own) : sum;
    }

    static void p43_allNumbersByTheWordsOfThePromise(Check check) {
        for (int v = 0; v <= 20; v++) {
            int pairs = 0;
            long[] least = {};
            for (int pair = 99; pair >= 0; pair--) {
                int x = pair / 10;
                int y = pair % 10;
                boolean rests = true;
                for (int other = 0; other <= 9; other++) {
                    rests &= has(v, other, y) <= has(v, x, y) && has(v, other, x) <= has(v, y, x);
                }
                pairs += rests ? 1 : 0;
                least = rests ? new long[] {x, y} : least;
            }
            PramGardens g = new PramGardens();
            check.is("shoulders(" + v + ")", g.shoulders(v), pairs);
            check.row("shoulders(" + v + ")", g, least);
        }
    }

    // ---- promise 44: years

    static void p44_nOutside(Check check) {
        PramGardens g = garden(ROUND, "200");
        g.laws();
        for (int n : new int[] {0, -1, 61, Integer.MAX_VALUE, Integer.MIN_VALUE}) {
            check.refused("years(1, " + n + ")", g, -1, () -> g.years(1, n));
        }
    }

    static void p44_onceAndSixtyTimes(Check check) {
        PramGardens g = garden(ROUND, "200");
        check.is("years(5, 1)", g.years(5, 1), 0);
        check.row("years(5, 1)", g, 0, 0);
        check.is("years(5, 60)", g.years(5, 60) >= 0, true);
        check.is("numbers of the ROW", g.count(11), 2);
    }

    static void p44_withoutPrams(Check check) {
        PramGardens g = new PramGardens();
        for (int seed = -5; seed < 5; seed++) {
            check.is("years(" + seed + ", 60)", g.years(seed, 60), 0);
            check.row("years(" + seed + ", 60)", g, 0, 0);
        }
    }

    static void p44_behindGardensWhosePramsAreGone(Check check) {
        PramGardens g = garden("22....", "000;000");
        g.looses(0);
        g.looses(1);
        g.sheet(0, 2, 63, 0);
        // seed 0 pushes, so that both stay LOOSE
        g.years(0, 1);
        check.row("with two", g, 2, 63);
        write(g, "22....").gardens();
        g.years(0, 1);
        check.row("without", g, 0, 0);
        write(g, "000").prams();
        g.years(0, 1);
        check.row("with a new one", g, 0, 0);
    }

    static void p44_aDrawOf0Pushes(Check check) {
        // seed 0: R / 65536 is 0, 54236, 42756: pushes() of PRAM 0 up
        PramGardens g = garden("33.a.......", "210");
        check.is("years(0, 1)", g.years(0, 1), 1);
        check.row("years(0, 1)", g, 0, 1);
        // of three PRAMS 54236 % 3 is 2
        PramGardens three = garden("33.a.......", "000;000;210");
        check.is("of three", three.years(0, 1), 1);
    }

    static void p44_aDrawOf1Pushes(Check check) {
        // seed -1: 48697, 4409, 9862: pushes() of PRAM 0 down; R is below 0 as an int
        PramGardens g = garden("33.......a.", "010");
        check.is("years(-1, 1)", g.years(-1, 1), 1);
        check.row("years(-1, 1)", g, 0, 1);
    }

    static void p44_aDrawOf2LetsGo(Check check) {
        // seed 1: 16838, 38526: looses() of PRAM 0 of one, 2 of four
        PramGardens one = garden("22....", "000");
        check.is("years(1, 1)", one.years(1, 1), 0);
        check.row("years(1, 1)", one, 1, 0);
        PramGardens four = garden("22....", "000;000;000;000");
        four.looses(2);
        check.is("one that is LOOSE already", four.years(1, 1), 0);
        check.row("one that is LOOSE already", four, 1, 0);
        four.looses(1);
        four.catches(2);
        four.years(1, 1);
        check.row("another than the one that is LOOSE", four, 2, 0);
    }

    static void p44_aDrawOf3IsAMinute(Check check) {
        // seed 3: 50515: R is below 0 as an int
        PramGardens g = garden("241.ab....", "000");
        g.looses(0);
        check.is("years(3, 1)", g.years(3, 1), 2);
        check.row("years(3, 1)", g, 1, 3);
        // seed 3 goes on by 7107: a second MINUTE, in which it stops
        check.is("years(3, 2)", g.years(3, 2), 2);
        check.row("years(3, 2)", g, 0, 3);
    }

    static void p44_aRefusedPushIsLeftOut(Check check) {
        // seed 0 pushes up, where the edge is
        PramGardens g = garden("22a...", "000");
        check.is("at the edge", g.years(0, 1), 0);
        check.row("at the edge", g, 0, 0);
        PramGardens loose = garden("33.a.......", "210");
        loose.looses(0);
        check.is("of a LOOSE one", loose.years(0, 1), 0);
        check.row("of a LOOSE one", loose, 1, 0);
    }

    static void p44_drawsGoOnFromOneToTheNext(Check check) {
        // seed 0: 0, 54236, 42756: up to a; 54885, 3498, 49695: left to b; 16045, 52509, 44890: down to c; 8410, 45029: let go;
        // 27052, 38427, 9758: a push that is refused
        PramGardens g = garden("66" + "......" + "...a.." + ".b...." + "......" + "..c..." + "......", "330", "d=1");
        int[] formed = {1, 2, 3, 3, 3};
        int[] loose = {0, 0, 0, 1, 1};
        int[] views = {1, 3, 7, 7, 7};
        for (int n = 1; n <= 5; n++) {
            check.is("years(0, " + n + ")", g.years(0, n), formed[n - 1]);
            check.row("years(0, " + n + ")", g, loose[n - 1], views[n - 1]);
        }
    }

    static void p44_viewsOfEachPramAreAddedUp(Check check) {
        // seed 3: a MINUTE, in which both form both
        PramGardens g = garden("241.ab....", "000;000");
        g.looses(0);
        g.looses(1);
        check.is("years(3, 1)", g.years(3, 1), 4);
        check.row("years(3, 1)", g, 2, 3);
    }

    static void p44_theMinuteGoesOnInIt(Check check) {
        // seed 3: two MINUTES; a is formed in the second one alone
        PramGardens g = garden("2511.ab.....", "000", "n=1");
        g.looses(0);
        check.is("years(3, 1)", g.years(3, 1), 0);
        check.is("years(3, 2)", g.years(3, 2), 2);
        check.row("years(3, 2)", g, 1, 3);
    }

    static void p44_seedsAtTheEndsOfInts(Check check) {
        for (int seed : new int[] {Integer.MIN_VALUE, Integer.MAX_VALUE, -1, 0}) {
            PramGardens g = garden(ROUND, "200;020");
            check.is("years() of " + seed, g.years(seed, 60) >= 0, true);
            check.is("the same again", garden(ROUND, "200;020").years(seed, 60), g.years(seed, 60));
        }
    }

    static void p44_viewsOfAllAsBits(Check check) {
        PramGardens g = garden("22....", "000;000;000");
        g.sheet(0, 3, 1, 31);
        g.years(5, 1);
        check.row("VIEWS 1, 32, 63", g, 0, 63);
        g.sheet(0, 3, 1, 1);
        g.years(5, 1);
        check.row("VIEWS 1, 2, 3", g, 0, 3);
    }

    static void p44_itIsAQuestion(Check check) {
        PramGardens g = garden("241.ab....", "000;110");
        g.looses(0);
        g.keep(0);
        check.question("years(3, 2)", g, 2, () -> g.years(3, 2));
        check.is("undo()", g.undo(), 0);
        check.is("again(0)", g.again(0), true);
    }

    // ---- promises 45, 46: keep, again

    static void p45_threeNumbers(Check check) {
        PramGardens g = garden(ROUND, "200");
        for (int i = 0; i < 3; i++) {
            check.is("keep(" + i + ")", g.keep(i), true);
            g.minutes(1);
        }
        for (int i = 2; i >= 0; i--) {
            check.is("again(" + i + ")", g.again(i), true);
            check.is("MINUTE", g.count(5), i);
        }
    }

    static void p45_othersAreRefused(Check check) {
        PramGardens g = garden(ROUND, "200");
        for (int i : new int[] {-1, 3, 32, Integer.MAX_VALUE, Integer.MIN_VALUE}) {
            check.refused("keep(" + i + ")", g, 0, () -> g.keep(i) ? 1 : 0);
        }
        for (int i = 0; i < 3; i++) {
            check.is("again(" + i + ")", g.again(i), false);
        }
    }

    static void p45_theLatestIsKept(Check check) {
        PramGardens g = garden(ROUND, "200");
        g.keep(1);
        g.minutes(5);
        g.keep(1);
        g.minutes(5);
        g.again(1);
        check.is("MINUTE", g.count(5), 5);
    }

    static void p45_withoutPrams(Check check) {
        PramGardens g = new PramGardens();
        check.is("keep(0)", g.keep(0), true);
        g.minutes(7);
        check.is("again(0)", g.again(0), true);
        check.is("MINUTE", g.count(5), 0);
    }

    static void p45_itCantBeUndone(Check check) {
        PramGardens g = garden(ROUND, "200");
        g.minutes(1);
        g.keep(0);
        check.is("count(10)", g.count(10), 1);
        check.is("undo()", g.undo(), 0);
        check.is("MINUTE", g.count(5), 0);
        check.is("it is kept as it was", g.again(0), true);
        check.is("MINUTE", g.count(5), 1);
    }

    static void p46_allOfPramsAndTheMinute(Check check) {
        PramGardens g = garden("26111.ab......", "000;010;023;112");
        for (int pram = 0; pram < 4; pram++) {
            g.looses(pram);
        }
        g.catches(2);
        g.sheet(0, 4, 60, 1);
        g.minutes(0);
        g.keep(2);
        g.catches(3);
        g.minutes(4);
        g.sheet(3, 0, 0, 0);
        g.faces(2, 0);
        check.is("again(2)", g.again(2), true);
        int[][] due = {{0, 0, 60, 1}, {1, 0, 61, 1}, {2, 3, 62, 0}, {7, 2, 63, 1}};
        check.prams(g, due);
        check.is("MINUTE", g.count(5), 0);
    }

    static void p46_pramsOnTheLastFields(Check check) {
        PramGardens g = garden("66" + ".".repeat(36), "553;552;541;530");
        g.keep(0);
        for (int pram = 0; pram < 4; pram++) {
            g.pushes(pram, 0);
        }
        g.again(0);
        int[][] due = {{35, 3}, {35, 2}, {34, 1}, {33, 0}};
        for (int pram = 0; pram < 4; pram++) {
            check.is("FIELD of " + pram, g.pram(pram, 0), due[pram][0]);
            check.is("WAY of " + pram, g.pram(pram, 1), due[pram][1]);
        }
    }

    static void p46_nothingKept(Check check) {
        PramGardens g = garden(ROUND, "200");
        g.keep(1);
        g.minutes(1);
        check.refused("again(0)", g, 0, () -> g.again(0) ? 1 : 0);
        check.refused("again(2)", g, 0, () -> g.again(2) ? 1 : 0);
        check.is("again(1)", g.again(1), true);
    }

    static void p46_otherNumbers(Check check) {
        PramGardens g = garden(ROUND, "200");
        for (int i = 0; i < 3; i++) {
            g.keep(i);
        }
        g.minutes(1);
        for (int i : new int[] {-1, 3, 32, Integer.MAX_VALUE, Integer.MIN_VALUE}) {
            check.refused("again(" + i + ")", g, 0, () -> g.again(i) ? 1 : 0);
        }
    }

    static void p46_gardensCameSince(Check check) {
        PramGardens g = garden(ROUND, "200");
        g.keep(0);
        write(g, "22...").gardens();
        check.is("behind refused ones", g.again(0), true);
        write(g, ROUND).gardens();
        check.is("again(0)", g.again(0), false);
        write(g, "200").prams();
        check.is("again(0) with PRAMS again", g.again(0), false);
    }

    static void p46_pramsCameSince(Check check) {
        PramGardens g = garden(ROUND, "200");
        g.keep(0);
        write(g, "209").prams();
        check.is("behind refused ones", g.again(0), true);
        write(g, "").prams();
        check.is("behind none", g.again(0), true);
        write(g, "200").prams();
        check.is("again(0)", g.again(0), false);
        check.is("PRAMS", g.count(2), 2);
        g.keep(0);
        check.is("kept anew", g.again(0), true);
    }

    static void p46_itIsKeptStill(Check check) {
        PramGardens g = garden(ROUND, "200");
        g.keep(0);
        for (int i = 0; i < 3; i++) {
            g.minutes(3);
            check.is("again(0)", g.again(0), true);
            check.is("MINUTE", g.count(5), 0);
        }
    }

    static void p46_whatWasKeptIsNotChangedByWhatComes(Check check) {
        PramGardens g = garden("22.a..", "000");
        g.keep(0);
        g.faces(0, 1);
        g.undo();
        g.pushes(0, 2);
        g.again(0);
        check.is("FIELD", g.pram(0, 0), 0);
        check.is("WAY", g.pram(0, 1), 0);
        check.is("VIEWS", g.pram(0, 2), 0);
    }

    static void p46_otherThingsStay(Check check) {
        PramGardens g = garden("26.....a......", "001");
        g.keep(0);
        withRule(g, "9");
        g.saw(1, 1, 1);
        g.heard(1, 1);
        g.laws();
        g.again(0);
        check.row("laws()", g, 1, 1);
        check.is("sees(0)", g.sees(0), 1);
        check.is("what was seen", g.count(8), 1);
        check.is("what was heard", g.count(9), 1);
    }

    // ---- promise 47: count

    static void p47_anotherWhat(Check check) {
        PramGardens g = new PramGardens();
        for (int what : new int[] {-1, 13, 100, -100, Integer.MAX_VALUE, Integer.MIN_VALUE}) {
            check.is("count(" + what + ")", g.count(what), -100);
        }
    }

    static void p47_eachWhatAtItsHighest(Check check) {
        PramGardens g = garden("66" + "abcdef".repeat(6), "000;010;020;030");
        g.sheet(0, 4, 63, 0);
        for (int i = 0; i < 16; i++) {
            g.minutes(60);
        }
        for (int pram = 0; pram < 4; pram++) {
            g.looses(pram);
        }
        for (int i = 0; i < 13; i++) {
            g.saw(5, 6, 1);
            g.heard(0, 0);
        }
        for (int i = 0; i < 21; i++) {
            g.sign(0);
        }
        g.way(0, 35);
        int[] due = {6, 6, 4, 36, 63, 960, 15, 24, 10, 12, 15, 10, 80};
        for (int what = 0; what < due.length; what++) {
            check.is("count(" + what + ")", g.count(what), due[what]);
        }
    }

    static void p47_fieldsThatAreNoWall(Check check) {
        check.is("none", garden("22####", "").count(3), 0);
        check.is("a SLOPE, a SIGHT, a PATH", garden("22#0a.", "").count(3), 3);
    }

    static void p47_sightsThatAreThere(Check check) {
        check.is("none", garden("22#0..", "").count(4), 0);
        check.is("the first and the last", garden("22a#f.", "").count(4), 33);
        check.is("one twice", garden("22cc..", "").count(4), 4);
    }

    static void p47_viewsOfAllAddedUp(Check check) {
        PramGardens g = garden("22....", "000;000");
        g.sheet(0, 2, 3, 4);
        // 3 has two, 7 has three
        check.is("count(7)", g.count(7), 5);
    }

    static void p47_numbersOfTheRow(Check check) {
        PramGardens g = new PramGardens();
        check.is("at first", g.count(11), 0);
        g.looks();
        check.is("behind looks()", g.count(11), 1);
        g.laws();
        check.is("behind laws()", g.count(11), 2);
        g.gates();
        check.is("behind gates()", g.count(11), 0);
    }

    static void p47_itChangesNothing(Check check) {
        PramGardens g = write(garden(ROUND, "200"), "abcd");
        g.minutes(1);
        for (int what = -1; what < 14; what++) {
            g.count(what);
        }
        check.row("minutes(1)", g, 0, 0);
        check.is("count(12)", g.count(12), 4);
        check.is("undo()", g.undo(), 0);
    }

    // ---- promise 48: row

    static void p48_noneSuchThrows(Check check) {
        PramGardens g = new PramGardens();
        check.throwsNone("row(0) of none", () -> g.row(0));
        g.laws();
        check.is("row(0)", g.row(0), 1);
        check.is("row(1)", g.row(1), 0);
        for (int i : new int[] {-1, 2, 15, 16, Integer.MAX_VALUE, Integer.MIN_VALUE}) {
            check.throwsNone("row(" + i + ")", () -> g.row(i));
        }
    }

    static void p48_aShorterRowTakesThePlaceOfALongerOne(Check check) {
        PramGardens g = garden(SNAKE, "000");
        g.way(0, 35);
        check.is("row(11)", g.row(11), 3);
        check.throwsNone("row(12)", () -> g.row(12));
        g.laws();
        check.throwsNone("row(2)", () -> g.row(2));
        g.way(0, 0);
        check.throwsNone("row(0)", () -> g.row(0));
    }

    static void p48_callsThatTellNoRowLeaveIt(Check check) {
        PramGardens g = garden("22....", "000");
        g.laws();
        g.sheet(0, 1, 1, 0);
        g.looses(0);
        g.catches(0);
        g.forgets(0, 0);
        g.undo();
        g.saw(1, 1, 1);
        g.denies();
        g.heard(1, 1);
        g.forget();
        g.keep(0);
        g.again(0);
        write(g, "1").rule();
        write(g, "000").prams();
        write(g, "22....").gardens();
        check.row("laws()", g, 1, 0);
    }

    static void p48_itCanBeAskedAgain(Check check) {
        PramGardens g = new PramGardens();
        g.laws();
        check.is("row(0)", g.row(0), 1);
        check.throwsNone("row(2)", () -> g.row(2));
        check.is("row(0) again", g.row(0), 1);
    }
}
