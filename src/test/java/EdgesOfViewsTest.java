/** The edges that promises 26 to 32 name: views to be formed, straying by chance, running loose. */
public final class EdgesOfViewsTest extends Cases {
    /** All 36 FIELDS but the last are SLOPES, from 0 on one behind the other; the last is FIELD 30. */
    private static final String RUN = "66" + "111112" + "233333" + "111112" + "233333" + "111112";

    public static void main(String[] args) throws Exception {
        runAll(EdgesOfViewsTest.class);
    }

    // ---- promise 26: forms

    static void p26_noSightsAreHadByNoPush(Check check) {
        PramGardens g = garden(ROUND, "200");
        g.laws();
        check.is("forms(0, 0)", g.forms(0, 0), 0);
        check.row("forms(0, 0)", g);
    }

    static void p26_whatItHasIsHadByNoPush(Check check) {
        PramGardens g = garden(ROUND, "200");
        g.sheet(0, 1, 63, 0);
        check.is("forms(0, 63)", g.forms(0, 63), 0);
        check.row("forms(0, 63)", g);
    }

    static void p26_itHasToBePushedEvenIfTheSightIsAhead(Check check) {
        PramGardens g = garden("24.a......", "001");
        check.is("sees(0)", g.sees(0), 1);
        // it comes to look at a by a push alone that ends beside it: from FIELD 3 to the left
        check.is("forms(0, 1)", g.forms(0, 1), 4);
        check.row("forms(0, 1)", g, 1, 1, 1, 3);
    }

    static void p26_toldSightsAtLeast(Check check) {
        PramGardens g = garden("26.abc........", "101", "9");
        // up to FIELD 0, then to the right: b and c come with it
        check.is("forms(0, 4)", g.forms(0, 4), 2);
        check.row("forms(0, 4)", g, 0, 1);
    }

    static void p26_ofAsFewTheLeastRow(Check check) {
        PramGardens g = garden("33.a.......", "210", "d=1");
        check.is("forms(0, 1)", g.forms(0, 1), 1);
        check.row("forms(0, 1)", g, 0);
        PramGardens corner = garden("33a........", "220", "d=1");
        check.is("forms(0, 1)", corner.forms(0, 1), 3);
        check.row("forms(0, 1)", corner, 0, 0, 3);
    }

    static void p26_twelveWaysAreToldWhole(Check check) {
        PramGardens g = garden(SNAKE.substring(0, 26) + "a" + SNAKE.substring(27), "010", "d=1");
        check.is("FIELD 24", g.field(24), 10);
        check.is("forms(0, 1)", g.forms(0, 1), 12);
        check.row("forms(0, 1)", g, 1, 1, 1, 1, 2, 2, 3, 3, 3, 3, 3, 2);
    }

    static void p26_ofThirteenTheFirstTwelveAlone(Check check) {
        PramGardens g = garden(SNAKE.substring(0, 26) + "a" + SNAKE.substring(27), "000", "d=1");
        check.is("forms(0, 1)", g.forms(0, 1), 13);
        check.row("forms(0, 1)", g, 1, 1, 1, 1, 1, 2, 2, 3, 3, 3, 3, 3);
    }

    static void p26_byNone(Check check) {
        PramGardens g = garden(ROUND, "200");
        g.laws();
        check.refused("a SIGHT that is not there", g, -2, () -> g.forms(0, 8));
        check.refused("one that is there and one that is not", g, -2, () -> g.forms(0, 9));
        withRule(g, "0");
        check.refused("by 0", g, -2, () -> g.forms(0, 1));
        check.is("none are had by 0, too", g.forms(0, 0), 0);
    }

    static void p26_byNoneIfNoPushEndsWithTheSightAhead(Check check) {
        // it looks at a, and can be pushed onto it and back
        PramGardens g = garden("22.a##", "001");
        check.is("sees(0)", g.sees(0), 1);
        check.is("forms(0, 1)", g.forms(0, 1), -2);
    }

    static void p26_byNoneInWalls(Check check) {
        PramGardens g = garden("22.##a", "000");
        check.is("forms(0, 1)", g.forms(0, 1), -2);
        check.is("forms(0, 0)", g.forms(0, 0), 0);
    }

    static void p26_byNoneInAnotherPart(Check check) {
        // a is seen in the first ROW alone, which lies apart
        PramGardens g = garden("33..a###...", "200;000");
        check.is("forms(0, 1)", g.forms(0, 1), -2);
        check.is("forms(1, 1)", g.forms(1, 1), 1);
        check.is("most(0)", g.most(0), 0);
        check.row("most(0)", g, 0);
    }

    static void p26_ofEachPramByItsOwnNumber(Check check) {
        PramGardens g = garden("24...a....", "000;000;000", "i=1");
        int[] due = {-2, 1, -2};
        for (int pram = 0; pram < 3; pram++) {
            check.is("forms(" + pram + ", 1)", g.forms(pram, 1), due[pram]);
            check.is("most(" + pram + ")", g.most(pram), pram == 1 ? 1 : 0);
            check.is("ways(" + pram + ", 1, 1)", g.ways(pram, 1, 1), pram == 1 ? 1 : 0);
        }
    }

    static void p26_aLooseOne(Check check) {
        PramGardens g = garden(ROUND, "200");
        g.laws();
        g.looses(0);
        check.refused("forms(0, 4)", g, -3, () -> g.forms(0, 4));
        check.refused("forms(0, 0)", g, -3, () -> g.forms(0, 0));
    }

    static void p26_othersAreNone(Check check) {
        PramGardens g = garden(ROUND, "200");
        g.laws();
        check.refused("SIGHTS -1", g, -1, () -> g.forms(0, -1));
        check.refused("SIGHTS 64", g, -1, () -> g.forms(0, 64));
        check.refused("SIGHTS max", g, -1, () -> g.forms(0, Integer.MAX_VALUE));
        check.refused("PRAM -1", g, -1, () -> g.forms(-1, 0));
        check.refused("PRAM 1", g, -1, () -> g.forms(1, 0));
        check.is("without PRAMS", new PramGardens().forms(0, 0), -1);
    }

    static void p26_allSixSights(Check check) {
        PramGardens g = garden("26abcdef......", "000", "9");
        // from FIELD 1 to the right c .. f, from FIELD 2 to the left a and b
        check.is("forms(0, 63)", g.forms(0, 63), 4);
        check.row("forms(0, 63)", g, 1, 1, 1, 3);
    }

    static void p26_theMinuteStaysAsItIs(Check check) {
        PramGardens g = garden("26..a.........", "101", "n=2");
        check.is("at MINUTE 0", g.forms(0, 1), -2);
        g.minutes(9);
        check.is("at MINUTE 9", g.forms(0, 1), 2);
        check.row("at MINUTE 9", g, 0, 1);
    }

    static void p26_othersStayWhereTheyAre(Check check) {
        PramGardens g = garden("24...a....", "100;020;100", "k=1");
        check.is("forms(0, 1)", g.forms(0, 1), 3);
        check.row("forms(0, 1)", g, 0, 1, 1);
        check.is("with the other on its FIELD", g.forms(2, 1), 3);
    }

    // ---- promise 27: most

    static void p27_whatItHasIfNoneCanBeFormed(Check check) {
        PramGardens g = garden("22....", "000");
        check.is("none", g.most(0), 0);
        check.row("none", g, 0);
        g.sheet(0, 1, 63, 0);
        check.is("all six", g.most(0), 6);
        check.row("all six", g, 0);
    }

    static void p27_shutIn(Check check) {
        PramGardens g = garden("22.##a", "000");
        check.is("most(0)", g.most(0), 0);
        check.row("most(0)", g, 0);
    }

    static void p27_allSixBySixSights(Check check) {
        PramGardens g = garden("26abcdef......", "000", "9");
        check.is("most(0)", g.most(0), 6);
        check.row("most(0)", g, 4);
    }

    static void p27_theFewestPushesByWhichItHasSoMany(Check check) {
        PramGardens g = garden(ROUND, "200");
        check.is("most(0)", g.most(0), 3);
        check.row("most(0)", g, 5);
        // two of them, whichever these are, and no more
        PramGardens two = garden(ROUND, "200", "2-v");
        check.is("most(0) by 2-v", two.most(0), 2);
        check.row("most(0) by 2-v", two, 3);
    }

    static void p27_viewsAtOnceGoBeyondARule(Check check) {
        PramGardens g = garden("26.abcde......", "100", "1-v");
        // from FIELD 1 to the right: four at once, and none behind that
        check.is("most(0)", g.most(0), 4);
        check.row("most(0)", g, 2);
    }

    static void p27_askedAgainByAnotherRule(Check check) {
        PramGardens g = garden(ROUND, "200");
        check.is("by none", g.most(0), 3);
        check.is("by 0", withRule(g, "0").most(0), 0);
        check.row("by 0", g, 0);
        check.is("by s=2", withRule(g, "s=2").most(0), 1);
        check.row("by s=2", g, 1);
    }

    static void p27_aLooseOne(Check check) {
        PramGardens g = garden(ROUND, "200;200");
        g.laws();
        g.looses(0);
        check.refused("most(0)", g, -3, () -> g.most(0));
        check.is("most(1)", g.most(1), 3);
    }

    static void p27_noneSuch(Check check) {
        PramGardens g = garden(ROUND, "200");
        g.laws();
        check.refused("most(-1)", g, -1, () -> g.most(-1));
        check.refused("most(1)", g, -1, () -> g.most(1));
        check.is("without PRAMS", new PramGardens().most(0), -1);
    }

    // ---- promise 28: ways

    static void p28_noPushes(Check check) {
        PramGardens g = garden(ROUND, "200");
        g.sheet(0, 1, 9, 0);
        g.laws();
        check.is("what it has", g.ways(0, 9, 0), 1);
        check.row("what it has", g);
        g.laws();
        check.is("another", g.ways(0, 8, 0), 0);
        check.row("another", g);
    }

    static void p28_fivePushes(Check check) {
        PramGardens g = garden("22....", "110");
        int[][] least = {{}, {0}, {0, 2}, {0, 2, 0}, {0, 2, 0, 2}, {0, 2, 0, 2, 0}};
        for (int n = 0; n <= 5; n++) {
            check.is("ways(0, 0, " + n + ")", g.ways(0, 0, n), 1 << n);
            check.row("ways(0, 0, " + n + ")", g, java.util.Arrays.stream(least[n]).asLongStream().toArray());
        }
    }

    static void p28_nOutside(Check check) {
        PramGardens g = garden(ROUND, "200");
        g.laws();
        check.refused("n -1", g, -1, () -> g.ways(0, 0, -1));
        check.refused("n 6", g, -1, () -> g.ways(0, 0, 6));
        check.refused("n max", g, -1, () -> g.ways(0, 0, Integer.MAX_VALUE));
    }

    static void p28_viewsOutside(Check check) {
        PramGardens g = garden(ROUND, "200");
        g.laws();
        check.refused("VIEWS -1", g, -1, () -> g.ways(0, -1, 1));
        check.refused("VIEWS 64", g, -1, () -> g.ways(0, 64, 1));
        check.is("VIEWS 63", g.ways(0, 63, 1), 0);
        check.row("VIEWS 63", g);
    }

    static void p28_noneSuch(Check check) {
        PramGardens g = garden(ROUND, "200");
        g.laws();
        check.refused("PRAM -1", g, -1, () -> g.ways(-1, 0, 1));
        check.refused("PRAM 1", g, -1, () -> g.ways(1, 0, 1));
        check.is("without PRAMS", new PramGardens().ways(0, 0, 0), -1);
    }

    static void p28_aLooseOne(Check check) {
        PramGardens g = garden(ROUND, "200");
        g.laws();
        g.looses(0);
        check.refused("ways(0, 0, 0)", g, -3, () -> g.ways(0, 0, 0));
        check.refused("ways(0, 4, 1)", g, -3, () -> g.ways(0, 4, 1));
    }

    static void p28_rowsWithARefusedPushDoNotCount(Check check) {
        PramGardens g = garden("22.###", "000");
        check.is("shut in, none", g.ways(0, 0, 0), 1);
        check.is("shut in, one", g.ways(0, 0, 1), 0);
        PramGardens two = garden("22..##", "000");
        check.is("to and fro", two.ways(0, 0, 5), 1);
        check.row("to and fro", two, 1, 3, 1, 3, 1);
    }

    static void p28_justToldViewsNoMore(Check check) {
        // to the right c, up a, by one push each
        PramGardens g = garden(ROUND, "200");
        check.is("a by one", g.ways(0, 1, 1), 1);
        check.row("a by one", g, 0);
        check.is("none by one", g.ways(0, 0, 1), 0);
        check.row("none by one", g);
        check.is("a and c by one", g.ways(0, 5, 1), 0);
        check.is("a and c by three", g.ways(0, 5, 3), 2);
        check.row("a and c by three", g, 0, 2, 1);
    }

    static void p28_theLeastRow(Check check) {
        PramGardens g = garden("33.........", "110");
        check.is("none by two", g.ways(0, 0, 2), 12);
        check.row("none by two", g, 0, 1);
    }

    // ---- promise 29: strays

    private static void straysAre(Check check, PramGardens g, int n, int field, long upper, long lower) {
        check.is("strays(0, " + n + ", " + field + ")", g.strays(0, n, field), 0);
        check.row("strays(0, " + n + ", " + field + ")", g, upper, lower);
    }

    static void p29_noTimeAtAll(Check check) {
        PramGardens g = garden("22....", "100");
        straysAre(check, g, 0, 2, 1, 1);
        straysAre(check, g, 0, 0, 0, 1);
        straysAre(check, g, 0, 3, 0, 1);
    }

    static void p29_eightTimes(Check check) {
        PramGardens g = garden("22....", "000");
        straysAre(check, g, 8, 0, 129, 512);
        straysAre(check, g, 8, 1, 1, 4);
        straysAre(check, g, 8, 3, 127, 512);
        PramGardens wide = garden("66" + ".".repeat(36), "000");
        // 4 to the right and 4 down, in any order: 70 of 65536
        straysAre(check, wide, 8, 28, 35, 32768);
        // not to be come to by eight
        straysAre(check, wide, 8, 35, 0, 1);
    }

    static void p29_nOutside(Check check) {
        PramGardens g = garden("22....", "000");
        g.laws();
        check.refused("n -1", g, -1, () -> g.strays(0, -1, 0));
        check.refused("n 9", g, -1, () -> g.strays(0, 9, 0));
        check.refused("n max", g, -1, () -> g.strays(0, Integer.MAX_VALUE, 0));
    }

    static void p29_noneSuch(Check check) {
        PramGardens g = garden("22....", "000");
        g.laws();
        check.refused("PRAM -1", g, -1, () -> g.strays(-1, 1, 0));
        check.refused("PRAM 1", g, -1, () -> g.strays(1, 1, 0));
        check.refused("FIELD -1", g, -1, () -> g.strays(0, 1, -1));
        check.refused("FIELD 4", g, -1, () -> g.strays(0, 1, 4));
        check.is("without PRAMS", new PramGardens().strays(0, 0, 0), -1);
    }

    static void p29_atTheEdgeItStays(Check check) {
        PramGardens g = garden("33.........", "000");
        straysAre(check, g, 1, 0, 1, 2);
        straysAre(check, g, 1, 1, 1, 4);
        straysAre(check, g, 1, 3, 1, 4);
        straysAre(check, g, 1, 4, 0, 1);
        straysAre(check, garden("33.........", "010"), 1, 1, 1, 4);
        straysAre(check, garden("33.........", "110"), 1, 4, 0, 1);
    }

    static void p29_atAWallItStays(Check check) {
        PramGardens g = garden("33.#.#.#.#.", "110");
        straysAre(check, g, 8, 4, 1, 1);
        // up and down it stays
        straysAre(check, garden("33....#....", "010"), 1, 1, 1, 2);
    }

    static void p29_onAWall(Check check) {
        straysAre(check, garden("22.#..", "000"), 3, 1, 0, 1);
    }

    static void p29_slopesAndLooseAside(Check check) {
        PramGardens g = garden("221...", "000");
        g.looses(0);
        straysAre(check, g, 1, 0, 1, 2);
        straysAre(check, g, 2, 3, 1, 8);
    }

    // ---- promise 30: stops

    static void p30_atOnceIsOneMinuteAndNoField(Check check) {
        PramGardens g = garden("22.a1#", "000;010;100");
        int[] due = {0, 1, 2};
        for (int pram = 0; pram < 3; pram++) {
            check.is("stops(" + pram + ")", g.stops(pram), due[pram]);
            check.row("stops(" + pram + ")", g, 1, 0);
        }
    }

    static void p30_atEachEdge(Check check) {
        PramGardens g = garden("220132", "000;010;100;110");
        for (int pram = 0; pram < 4; pram++) {
            check.is("stops(" + pram + ")", g.stops(pram), pram);
            check.row("stops(" + pram + ")", g, 1, 0);
        }
    }

    static void p30_theLongestRun(Check check) {
        PramGardens g = garden(RUN + ".33333", "000");
        check.is("stops(0)", g.stops(0), 30);
        check.row("stops(0)", g, 36, 35);
        g.looses(0);
        check.is("35 MINUTES", g.minutes(35), 1);
        check.is("FIELD", g.pram(0, 0), 30);
        check.is("one more", g.minutes(1), 0);
    }

    static void p30_itNeverStops(Check check) {
        PramGardens g = garden(RUN + "033333", "000;550;551");
        g.laws();
        check.refused("stops(0)", g, -2, () -> g.stops(0));
        check.refused("stops(1)", g, -2, () -> g.stops(1));
        PramGardens two = garden("2213..", "000");
        two.laws();
        check.refused("to and fro", two, -2, () -> two.stops(0));
    }

    static void p30_ofALooseOne(Check check) {
        PramGardens g = garden("2311....", "000");
        g.looses(0);
        check.is("stops(0)", g.stops(0), 2);
        check.row("stops(0)", g, 3, 2);
        g.minutes(1);
        check.is("stops(0), on its way", g.stops(0), 2);
        check.row("stops(0), on its way", g, 2, 1);
    }

    static void p30_noneSuch(Check check) {
        PramGardens g = garden("22....", "000");
        g.laws();
        check.refused("stops(-1)", g, -1, () -> g.stops(-1));
        check.refused("stops(1)", g, -1, () -> g.stops(1));
        check.is("without PRAMS", new PramGardens().stops(0), -1);
    }

    // ---- promise 31: rounds

    static void p31_none(Check check) {
        PramGardens g = garden("2211..", "");
        g.laws();
        check.is("rounds()", g.rounds(), 0);
        check.row("rounds()", g);
        PramGardens walls = garden("22####", "");
        check.is("WALLS alone", walls.rounds(), 0);
        check.row("WALLS alone", walls);
    }

    static void p31_all(Check check) {
        PramGardens small = garden("221203", "");
        check.is("rounds()", small.rounds(), 4);
        check.row("rounds()", small, 0);
        PramGardens large = garden(RUN + "033333", "");
        check.is("rounds()", large.rounds(), 36);
        check.row("rounds()", large, 0);
    }

    static void p31_theLongestRunIsNoRound(Check check) {
        PramGardens g = garden(RUN + ".33333", "");
        g.laws();
        check.is("rounds()", g.rounds(), 0);
        check.row("rounds()", g);
    }

    static void p31_thoseThatRunIntoARoundCountToo(Check check) {
        PramGardens g = garden("25..113.....", "");
        check.is("rounds()", g.rounds(), 3);
        check.row("rounds()", g, 2);
    }

    static void p31_theFirst(Check check) {
        PramGardens g = garden("33......#13", "");
        check.is("rounds()", g.rounds(), 2);
        check.row("rounds()", g, 7);
    }

    // ---- promise 32: basin

    static void p32_itselfAlone(Check check) {
        PramGardens g = garden("22....", "");
        check.is("basin(3)", g.basin(3), 1);
        check.row("basin(3)", g, 3, 0);
    }

    static void p32_noneIfItDoesNotStopThere(Check check) {
        PramGardens g = garden("221...", "");
        g.laws();
        check.is("basin(0)", g.basin(0), 0);
        check.row("basin(0)", g);
        check.is("basin(1)", g.basin(1), 2);
        check.row("basin(1)", g, 0, 1);
    }

    static void p32_noneInARound(Check check) {
        PramGardens g = garden("2213..", "");
        g.laws();
        check.is("basin(0)", g.basin(0), 0);
        check.row("basin(0)", g);
    }

    static void p32_aSlopeToAWallOrTheEdge(Check check) {
        PramGardens g = garden("2311#111", "");
        check.is("at a WALL", g.basin(1), 2);
        check.row("at a WALL", g, 0, 1);
        check.is("at the edge", g.basin(5), 3);
        check.row("at the edge", g, 3, 2);
    }

    static void p32_theFirstAndTheLongest(Check check) {
        // 1 runs down, 3 to the right, 5 to the left and 8 by 7 up: all to 4
        PramGardens g = garden("33.2.1.3.03", "");
        check.is("basin(4)", g.basin(4), 6);
        check.row("basin(4)", g, 1, 2);
    }

    static void p32_allFields(Check check) {
        PramGardens g = garden(RUN + ".33333", "");
        check.is("basin(30)", g.basin(30), 36);
        check.row("basin(30)", g, 0, 35);
    }

    static void p32_aWall(Check check) {
        PramGardens g = garden(ROUND, "");
        g.laws();
        check.refused("basin(4)", g, -2, () -> g.basin(4));
    }

    static void p32_noneSuch(Check check) {
        PramGardens g = garden(ROUND, "");
        g.laws();
        check.refused("basin(-1)", g, -1, () -> g.basin(-1));
        check.refused("basin(9)", g, -1, () -> g.basin(9));
        check.refused("basin(max)", g, -1, () -> g.basin(Integer.MAX_VALUE));
    }
}
