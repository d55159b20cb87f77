/** The edges that promises 18 to 25 name: what is seen, stands, ways, parts, gates and the nearest. */
public final class EdgesOfSeeingTest extends Cases {
    public static void main(String[] args) throws Exception {
        runAll(EdgesOfSeeingTest.class);
    }

    // ---- promise 18: sees

    static void p18_howManyFieldsItSees(Check check) {
        PramGardens g = garden("26............", "001;013;050;111");
        int[] due = {5, 1, 0, 4};
        for (int pram = 0; pram < 4; pram++) {
            check.is("sees(" + pram + ")", g.sees(pram), 0);
            check.row("sees(" + pram + ")", g, due[pram], 0);
        }
    }

    static void p18_fieldsToAWallAlone(Check check) {
        PramGardens g = garden("26...#.a#.....", "001;111;041");
        check.is("ahead of a WALL", g.sees(0), 0);
        check.row("ahead of a WALL", g, 2, 0);
        check.is("on a WALL's other side", g.sees(2), 1);
        check.row("on a WALL's other side", g, 1, 1);
        PramGardens beside = garden("22.#..", "001");
        check.is("beside a WALL", beside.sees(0), 0);
        check.row("beside a WALL", beside, 0, 0);
    }

    static void p18_theNearestOfTheseSightsNotOfAll(Check check) {
        PramGardens g = garden("26.abc.d......", "001", "9");
        check.is("sees(0)", g.sees(0), 15);
        check.row("sees(0)", g, 5, 1);
        g.sheet(0, 1, 3, 0);
        check.is("with VIEWS of a, b", g.sees(0), 12);
        check.row("with VIEWS of a, b", g, 5, 3);
        withRule(g, "d>4");
        check.is("by d>4", g.sees(0), 8);
        check.row("by d>4", g, 5, 5);
    }

    static void p18_zeroWithoutSights(Check check) {
        PramGardens g = garden("26.abc.d......", "001", "0");
        check.is("by 0", g.sees(0), 0);
        check.row("by 0", g, 5, 0);
    }

    static void p18_theNearestOfASightThatIsThereTwice(Check check) {
        PramGardens g = garden("26..a.a.......", "001", "9");
        check.is("sees(0)", g.sees(0), 1);
        check.row("sees(0)", g, 5, 2);
    }

    static void p18_ofALooseOne(Check check) {
        PramGardens g = garden("22.a..", "001");
        g.looses(0);
        check.is("sees(0)", g.sees(0), 1);
        check.row("sees(0)", g, 1, 1);
    }

    static void p18_noneSuch(Check check) {
        PramGardens g = garden("22.a..", "001");
        g.laws();
        check.refused("sees(-1)", g, -1, () -> g.sees(-1));
        check.refused("sees(1)", g, -1, () -> g.sees(1));
        check.refused("sees(max)", g, -1, () -> g.sees(Integer.MAX_VALUE));
        check.is("without PRAMS", new PramGardens().sees(0), -1);
    }

    // ---- promise 19: would

    static void p19_fromEachFieldAndWay(Check check) {
        PramGardens g = garden("22.a..", "000");
        check.is("from FIELD 0 to the right", g.would(0, 0, 1), 1);
        check.row("from FIELD 0 to the right", g, 1);
        check.is("from FIELD 3 up", g.would(0, 3, 0), 1);
        check.is("from FIELD 3 down", g.would(0, 3, 2), 0);
        check.row("from FIELD 3 down", g, 0);
        check.is("from the SIGHT itself", g.would(0, 1, 3), 0);
    }

    static void p19_howManySightsTheRowTells(Check check) {
        PramGardens g = garden("26.abcde......", "000", "9");
        check.is("would(0, 0, 1)", g.would(0, 0, 1), 31);
        check.row("would(0, 0, 1)", g, 5);
    }

    static void p19_viewsAsTheyAre(Check check) {
        PramGardens g = garden("26.abcde......", "000", "3-v");
        g.sheet(0, 1, 6, 0);
        check.is("of two VIEWS", g.would(0, 0, 1), 25);
        g.sheet(0, 1, 7, 0);
        check.is("of three VIEWS", g.would(0, 0, 1), 0);
    }

    static void p19_othersWhereTheyAre(Check check) {
        PramGardens g = garden("22.a..", "000;110", "k=1");
        check.is("where the other is", g.would(0, 3, 0), 1);
        check.is("where none is but itself", g.would(0, 0, 1), 0);
        check.is("where the first is", g.would(1, 0, 1), 1);
        check.is("where it is itself", g.would(1, 3, 0), 0);
    }

    static void p19_aWall(Check check) {
        PramGardens g = garden(ROUND, "200");
        g.laws();
        check.refused("would(0, 4, 0)", g, -2, () -> g.would(0, 4, 0));
    }

    static void p19_othersAreNone(Check check) {
        PramGardens g = garden(ROUND, "200");
        g.laws();
        check.refused("FIELD -1", g, -1, () -> g.would(0, -1, 0));
        check.refused("FIELD 9", g, -1, () -> g.would(0, 9, 0));
        check.refused("WAY -1", g, -1, () -> g.would(0, 0, -1));
        check.refused("WAY 4", g, -1, () -> g.would(0, 0, 4));
        check.refused("PRAM -1", g, -1, () -> g.would(-1, 0, 0));
        check.refused("PRAM 1", g, -1, () -> g.would(1, 0, 0));
        check.is("without PRAMS", new PramGardens().would(0, 0, 0), -1);
    }

    static void p19_theLastFieldAndWay(Check check) {
        PramGardens g = garden("22..a.", "000");
        check.is("would(0, 3, 3)", g.would(0, 3, 3), 1);
    }

    // ---- promise 20: stands

    static void p20_noneIsNeededIfNoneCanBeFormed(Check check) {
        PramGardens g = garden("22....", "000");
        check.is("without SIGHTS", g.stands(0), 0);
        check.row("without SIGHTS", g, 0);
        PramGardens ruled = garden("22.a..", "000", "0");
        check.is("by 0", ruled.stands(0), 0);
        check.row("by 0", ruled, 0);
        PramGardens has = garden("22.a..", "000");
        has.sheet(0, 1, 1, 0);
        check.is("with all VIEWS", has.stands(0), 0);
        check.row("with all VIEWS", has, 0);
    }

    static void p20_oneStandForAll(Check check) {
        PramGardens g = garden("26.abcde......", "100", "9");
        check.is("stands(0)", g.stands(0), 1);
        check.row("stands(0)", g, 31, 1);
    }

    static void p20_theLeastOfLikeStands(Check check) {
        // a in the middle, seen from FIELDS 1, 3, 5, 7
        PramGardens g = garden("33....a....", "000", "d=1");
        check.is("stands(0)", g.stands(0), 1);
        check.row("stands(0)", g, 1, 4 * 1 + 2);
    }

    static void p20_theLastFieldAndWayCanBeAStand(Check check) {
        PramGardens g = garden("22##a.", "100");
        check.is("stands(0)", g.stands(0), 1);
        check.row("stands(0)", g, 1, 4 * 3 + 3);
    }

    static void p20_standsRise(Check check) {
        PramGardens g = garden("26abcdef......", "100", "d=1");
        check.is("stands(0)", g.stands(0), 6);
        check.row("stands(0)", g, 63, 1, 5, 7, 9, 13, 17);
    }

    static void p20_fewerStandsComeAheadOfALesserRow(Check check) {
        // from FIELD 0 b alone is seen, from FIELD 4 a and b: one stand is fewer than two
        PramGardens g = garden("24.b.#.ba.", "000", "d<3");
        check.is("stands(0)", g.stands(0), 1);
        check.row("stands(0)", g, 3, 4 * 4 + 1);
    }

    static void p20_ofAsFewTheLeastRow(Check check) {
        PramGardens g = garden("26abcdef......", "100", "9");
        // from FIELD 0 all but a, from FIELD 1 a; from FIELDS 4, 5 to the left would do, too
        check.is("stands(0)", g.stands(0), 2);
        check.row("stands(0)", g, 63, 1, 7);
    }

    static void p20_sightsThatCanBeFormedFromNoStandAreLeftOut(Check check) {
        // b stands between WALLS
        PramGardens g = garden("33a.######b", "000", "9");
        check.is("stands(0)", g.stands(0), 1);
        check.row("stands(0)", g, 1, 4 * 1 + 3);
    }

    static void p20_noStandOnAWall(Check check) {
        PramGardens g = garden("22#a#.", "010");
        check.is("stands(0)", g.stands(0), 1);
        check.row("stands(0)", g, 1, 4 * 3);
    }

    static void p20_viewsAndOthersAsTheyAre(Check check) {
        PramGardens g = garden("26abcdef......", "100;020", "(k=1)*(v=1)");
        check.is("of no VIEWS", g.stands(0), 0);
        g.sheet(0, 1, 4, 0);
        // beside the other alone, on FIELD 2
        check.is("of one VIEW", g.stands(0), 2);
        check.row("of one VIEW", g, 59, 9, 11);
    }

    static void p20_ofFieldsApartFromThePram(Check check) {
        PramGardens g = garden("33.######a.", "000");
        check.is("stands(0)", g.stands(0), 1);
        check.row("stands(0)", g, 1, 4 * 8 + 3);
    }

    static void p20_askedTwice(Check check) {
        PramGardens g = garden(ROUND, "200");
        for (int i = 0; i < 2; i++) {
            check.is("stands(0)", g.stands(0), 3);
            check.row("stands(0)", g, 7, 1, 7, 10);
        }
    }

    static void p20_askedAgainByAnotherRule(Check check) {
        PramGardens g = garden("26.abcde......", "100", "9");
        check.is("by 9", g.stands(0), 1);
        check.row("by 9", g, 31, 1);
        check.is("by d=1", withRule(g, "d=1").stands(0), 5);
        check.row("by d=1", g, 31, 1, 5, 9, 13, 17);
        check.is("by d=5", withRule(g, "d=5").stands(0), 1);
        check.row("by d=5", g, 16, 1);
        check.is("by 0", withRule(g, "0").stands(0), 0);
        check.row("by 0", g, 0);
    }

    static void p20_amongSightsOnAllFields(Check check) {
        PramGardens g = garden("66" + "abcdef".repeat(6), "000", "9");
        // b to f from FIELD 0 to the right, a from there down
        check.is("stands(0)", g.stands(0), 2);
        check.row("stands(0)", g, 63, 1, 2);
    }

    static void p20_noneSuch(Check check) {
        PramGardens g = garden(ROUND, "200");
        g.laws();
        check.refused("stands(-1)", g, -1, () -> g.stands(-1));
        check.refused("stands(1)", g, -1, () -> g.stands(1));
        check.is("without PRAMS", new PramGardens().stands(0), -1);
    }

    // ---- promise 21: way

    static void p21_likeOnesAreZero(Check check) {
        PramGardens g = garden(ROUND, "");
        g.laws();
        check.is("way(3, 3)", g.way(3, 3), 0);
        check.row("way(3, 3)", g);
    }

    static void p21_nextOnesAreOne(Check check) {
        PramGardens g = garden("33.........", "");
        int[] to = {1, 5, 7, 3};
        for (int way = 0; way < 4; way++) {
            check.is("way(4, " + to[way] + ")", g.way(4, to[way]), 1);
            check.row("way(4, " + to[way] + ")", g, way);
        }
    }

    static void p21_ofAsFewTheLeastRow(Check check) {
        PramGardens g = garden("33.........", "");
        check.is("way(0, 8)", g.way(0, 8), 4);
        check.row("way(0, 8)", g, 1, 1, 2, 2);
        check.is("way(8, 0)", g.way(8, 0), 4);
        check.row("way(8, 0)", g, 0, 0, 3, 3);
        check.is("way(2, 6)", g.way(2, 6), 4);
        check.row("way(2, 6)", g, 2, 2, 3, 3);
        check.is("way(6, 2)", g.way(6, 2), 4);
        check.row("way(6, 2)", g, 0, 0, 1, 1);
    }

    static void p21_roundAWall(Check check) {
        PramGardens g = garden(ROUND, "");
        check.is("way(3, 5)", g.way(3, 5), 4);
        check.row("way(3, 5)", g, 0, 1, 1, 2);
    }

    static void p21_twelveWaysAreToldWhole(Check check) {
        PramGardens g = garden(SNAKE, "");
        check.is("way(0, 12)", g.way(0, 12), 12);
        check.row("way(0, 12)", g, 1, 1, 1, 1, 1, 2, 2, 3, 3, 3, 3, 3);
    }

    static void p21_ofThirteenTheFirstTwelveAlone(Check check) {
        PramGardens g = garden(SNAKE, "");
        check.is("way(0, 18)", g.way(0, 18), 13);
        check.row("way(0, 18)", g, 1, 1, 1, 1, 1, 2, 2, 3, 3, 3, 3, 3);
        check.is("way(35, 0)", g.way(35, 0), 20);
        check.row("way(35, 0)", g, 0, 3, 3, 3, 3, 3, 0, 0, 1, 1, 1, 1);
    }

    static void p21_thereIsNoWay(Check check) {
        PramGardens g = garden("33.#.##....", "");
        g.laws();
        check.refused("way(0, 8)", g, -2, () -> g.way(0, 8));
        check.refused("way(8, 0)", g, -2, () -> g.way(8, 0));
    }

    static void p21_aWall(Check check) {
        PramGardens g = garden("33.#.##....", "");
        g.laws();
        check.refused("to a WALL", g, -2, () -> g.way(2, 1));
        check.refused("from a WALL", g, -2, () -> g.way(1, 2));
        check.refused("from a WALL to another", g, -2, () -> g.way(3, 4));
        check.refused("like WALLS", g, -2, () -> g.way(4, 4));
    }

    static void p21_noneSuch(Check check) {
        PramGardens g = garden(ROUND, "");
        g.laws();
        check.refused("from -1", g, -1, () -> g.way(-1, 0));
        check.refused("to -1", g, -1, () -> g.way(0, -1));
        check.refused("from 9", g, -1, () -> g.way(9, 0));
        check.refused("to 9", g, -1, () -> g.way(0, 9));
        check.refused("like ones that are none", g, -1, () -> g.way(9, 9));
        check.refused("to max", g, -1, () -> g.way(0, Integer.MAX_VALUE));
    }

    static void p21_slopesAndPramsAreNoHindrance(Check check) {
        PramGardens g = garden("2333333.", "010");
        check.is("way(0, 2)", g.way(0, 2), 2);
        check.row("way(0, 2)", g, 1, 1);
    }

    // ---- promise 22: reach

    static void p22_allFieldsFromACorner(Check check) {
        PramGardens g = garden("66" + ".".repeat(36), "");
        check.is("reach(0)", g.reach(0), 36);
        check.row("reach(0)", g, 10, 35);
        check.is("reach(35)", g.reach(35), 36);
        check.row("reach(35)", g, 10, 0);
    }

    static void p22_itselfAlone(Check check) {
        PramGardens g = garden("22##.#", "");
        check.is("reach(2)", g.reach(2), 1);
        check.row("reach(2)", g, 0, 2);
    }

    static void p22_ofAsFarOnesTheFirst(Check check) {
        PramGardens g = garden("33.........", "");
        check.is("reach(4)", g.reach(4), 9);
        check.row("reach(4)", g, 2, 0);
        check.is("reach(1)", g.reach(1), 9);
        check.row("reach(1)", g, 3, 6);
    }

    static void p22_theFarthestIsNotTheLast(Check check) {
        PramGardens g = garden(ROUND, "");
        check.is("reach(5)", g.reach(5), 8);
        check.row("reach(5)", g, 4, 3);
    }

    static void p22_fieldsThatLieApartDoNotCount(Check check) {
        PramGardens g = garden("33.#.##....", "");
        check.is("reach(0)", g.reach(0), 1);
        check.row("reach(0)", g, 0, 0);
        check.is("reach(2)", g.reach(2), 5);
        check.row("reach(2)", g, 4, 6);
    }

    static void p22_aWall(Check check) {
        PramGardens g = garden(ROUND, "");
        g.laws();
        check.refused("reach(4)", g, -2, () -> g.reach(4));
    }

    static void p22_noneSuch(Check check) {
        PramGardens g = garden(ROUND, "");
        g.laws();
        check.refused("reach(-1)", g, -1, () -> g.reach(-1));
        check.refused("reach(9)", g, -1, () -> g.reach(9));
        check.refused("reach(min)", g, -1, () -> g.reach(Integer.MIN_VALUE));
    }

    // ---- promise 23: parts

    static void p23_wallsAloneAreNoParts(Check check) {
        PramGardens g = garden("22####", "");
        g.laws();
        check.is("parts()", g.parts(), 0);
        check.row("parts()", g);
    }

    static void p23_oneFieldIsAPart(Check check) {
        PramGardens g = garden("22###.", "");
        check.is("parts()", g.parts(), 1);
        check.row("parts()", g, 1, 3);
    }

    static void p23_ofAsLargeOnesTheFirst(Check check) {
        PramGardens g = garden("33..#####..", "");
        check.is("parts()", g.parts(), 2);
        check.row("parts()", g, 2, 0);
    }

    static void p23_theLargestNeedNotBeTheFirst(Check check) {
        PramGardens g = garden("33.#.##....", "");
        check.is("parts()", g.parts(), 2);
        check.row("parts()", g, 5, 2);
    }

    static void p23_cornersThatTouchAreApart(Check check) {
        PramGardens g = garden("22.##.", "");
        check.is("parts()", g.parts(), 2);
        check.row("parts()", g, 1, 0);
    }

    static void p23_theEndOfARowIsApartFromTheNextRow(Check check) {
        // FIELDS 2 and 3 follow one another, but are not next to each other
        PramGardens g = garden("23##..##", "");
        check.is("parts()", g.parts(), 2);
        check.row("parts()", g, 1, 2);
    }

    static void p23_askedAgainInSmallerGardens(Check check) {
        PramGardens g = garden("66" + ".".repeat(36), "");
        check.is("parts()", g.parts(), 1);
        check.row("parts()", g, 36, 0);
        write(g, "22##.#").gardens();
        check.is("parts()", g.parts(), 1);
        check.row("parts()", g, 1, 2);
    }

    static void p23_eighteenPartsAtMost(Check check) {
        PramGardens g = garden("66" + ".#.#.##.#.#.".repeat(3), "");
        check.is("parts()", g.parts(), 18);
        check.row("parts()", g, 1, 0);
    }

    // ---- promise 24: gates

    static void p24_noneInOpenGardens(Check check) {
        PramGardens g = garden("22....", "");
        g.laws();
        check.is("gates()", g.gates(), 0);
        check.row("gates()", g);
    }

    static void p24_aFieldBetweenTwo(Check check) {
        PramGardens g = garden("23...###", "");
        check.is("gates()", g.gates(), 1);
        check.row("gates()", g, 1);
    }

    static void p24_theFirstAndTheLastFieldCanBeGates(Check check) {
        PramGardens first = garden("22...#", "");
        check.is("gates()", first.gates(), 1);
        check.row("gates()", first, 0);
        PramGardens last = garden("22#...", "");
        check.is("gates()", last.gates(), 1);
        check.row("gates()", last, 3);
    }

    static void p24_aPartOfOneOrTwoFieldsHasNone(Check check) {
        // one that is taken away whole leaves fewer parts, one of two as many
        check.is("one", garden("22.###", "").gates(), 0);
        check.is("two", garden("22..##", "").gates(), 0);
        check.is("WALLS alone", garden("22####", "").gates(), 0);
    }

    static void p24_theFirstOfSeveral(Check check) {
        PramGardens g = garden("26......######", "");
        check.is("gates()", g.gates(), 4);
        check.row("gates()", g, 1);
    }

    static void p24_inSeveralParts(Check check) {
        PramGardens g = garden("33...###...", "");
        check.is("gates()", g.gates(), 2);
        check.row("gates()", g, 1);
    }

    static void p24_aCrossing(Check check) {
        PramGardens g = garden("33#.#...#.#", "");
        check.is("gates()", g.gates(), 1);
        check.row("gates()", g, 4);
    }

    // ---- promise 25: nearest

    static void p25_fewerThanTwo(Check check) {
        PramGardens none = new PramGardens();
        none.laws();
        check.refused("none", none, -2, none::nearest);
        PramGardens one = garden("22....", "000");
        one.laws();
        check.refused("one", one, -2, one::nearest);
    }

    static void p25_noneHaveAWay(Check check) {
        PramGardens g = garden("22.##.", "000;110");
        g.laws();
        check.refused("nearest()", g, -2, g::nearest);
    }

    static void p25_onOneField(Check check) {
        PramGardens g = garden("22....", "000;110;110");
        check.is("nearest()", g.nearest(), 0);
        check.row("nearest()", g, 1, 2);
    }

    static void p25_ofLikeOnesTheLeastRow(Check check) {
        PramGardens g = garden("33.........", "000;020;220;200");
        check.is("nearest()", g.nearest(), 2);
        check.row("nearest()", g, 0, 1);
        PramGardens later = garden("33.........", "000;220;210;120");
        check.is("nearest()", later.nearest(), 1);
        check.row("nearest()", later, 1, 2);
    }

    static void p25_theLastTwo(Check check) {
        PramGardens g = garden("66" + ".".repeat(36), "000;050;540;550");
        check.is("nearest()", g.nearest(), 1);
        check.row("nearest()", g, 2, 3);
    }

    static void p25_byPushesNotByFieldsBetween(Check check) {
        // 0 and 1 are two FIELDS off each other, but six pushes; 1 and 2 are two pushes
        PramGardens g = garden("34.#...#.....#", "000;020;220");
        check.is("nearest()", g.nearest(), 2);
        check.row("nearest()", g, 1, 2);
    }

    static void p25_looseOnesCountToo(Check check) {
        PramGardens g = garden("22....", "000;110");
        g.looses(0);
        g.looses(1);
        check.is("nearest()", g.nearest(), 2);
        check.row("nearest()", g, 0, 1);
    }
}
