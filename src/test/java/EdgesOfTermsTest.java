/** The edges that the terms name, ahead of the promises. */
public final class EdgesOfTermsTest extends Cases {
    public static void main(String[] args) throws Exception {
        runAll(EdgesOfTermsTest.class);
    }

    // ---- terms 1: gardens, prams, THE RULE, looking

    static void terms1_rowsAndColumnsCanBeTwoToSix(Check check) {
        for (int rows = 2; rows <= 6; rows++) {
            for (int columns = 2; columns <= 6; columns++) {
                PramGardens g = garden("" + rows + columns + ".".repeat(rows * columns), "");
                check.is("ROWS", g.count(0), rows);
                check.is("COLUMNS", g.count(1), columns);
            }
        }
    }

    static void terms1_fieldsGoByRows(Check check) {
        PramGardens g = garden("23abcdef", "120");
        for (int field = 0; field < 6; field++) {
            check.is("field(" + field + ")", g.field(field), 10 + field);
        }
        check.is("FIELD in ROW 1, COLUMN 2", g.pram(0, 0), 5);
    }

    static void terms1_severalFieldsCanHaveOneSight(Check check) {
        check.is("count(4)", garden("22bbbb", "").count(4), 2);
    }

    static void terms1_waysAreUpRightDownLeft(Check check) {
        PramGardens g = garden("33.........", "110;111;112;113");
        int[] ahead = {1, 5, 7, 3};
        for (int way = 0; way < 4; way++) {
            check.is("ahead to WAY " + way, g.pram(way, 4), ahead[way]);
        }
    }

    static void terms1_pramsAtFirstHaveNoViewsAndAreNotLoose(Check check) {
        // it looks at a SIGHT, but has not LOOKED
        PramGardens g = garden("22a...", "013");
        check.is("VIEWS", g.pram(0, 2), 0);
        check.is("LOOSE", g.pram(0, 3), 0);
    }

    static void terms1_minuteIsZeroAtFirst(Check check) {
        check.is("count(5)", garden("22....", "000").count(5), 0);
    }

    static void terms1_theRuleIsFourLessDistanceAtFirst(Check check) {
        PramGardens g = garden("26.....a......", "021");
        check.is("3 FIELDS off", g.would(0, 2, 1), 1);
        check.is("4 FIELDS off", g.would(0, 1, 1), 0);
    }

    /** Whether a view is formed by a rule, of a SIGHT d 1, s 0, v 0, h 1, k 0, i 0, n 0. */
    private static void so(Check check, boolean due, String... rules) {
        PramGardens g = garden("22.a..", "001");
        for (String rule : rules) {
            check.is("by " + rule, withRule(g, rule).sees(0) == 1, due);
        }
    }

    static void terms1_comparisonsBindLeast(Check check) {
        so(check, true, "1<2+3", "2+3>4", "1+1=2", "2*3=5+1", "-1<0", "3>-4");
        so(check, false, "3<2", "2+3<4");
    }

    static void terms1_comparisonsAreOneOrZero(Check check) {
        so(check, true, "(1<2)=1", "(2>1)=1", "(2=2)=1", "(2<1)=0", "(1>2)=0", "(1=2)=0");
    }

    static void terms1_likeNumbersAreNeitherLessNorMore(Check check) {
        so(check, false, "2<2", "2>2", "1=2");
        so(check, true, "2=2");
    }

    static void terms1_sumsGoFromTheLeft(Check check) {
        so(check, true, "10-3-2=5", "10-3+2=9", "1-2-3=-4");
    }

    static void terms1_productsGoFromTheLeft(Check check) {
        so(check, true, "100/10/5=2", "7/2*2=6", "2*7/4=3", "8/2*4=16");
    }

    static void terms1_productsBindMoreThanSums(Check check) {
        so(check, true, "2+3*4=14", "2*3+4=10", "9-8/4=7", "8/4-9=-7");
    }

    static void terms1_divisionByZeroIsZero(Check check) {
        so(check, true, "7/0=0", "-7/0=0", "0/0=0", "7/(d-1)=0", "1+7/0=1");
    }

    static void terms1_divisionIsCutToZero(Check check) {
        so(check, true, "7/2=3", "-7/2=-3", "7/-2=-3", "-7/-2=3", "-1/2=0");
    }

    static void terms1_minusAheadOfAThingCanBeAnyMany(Check check) {
        so(check, true, "-2=0-2", "--2=2", "---2=-2", "----2=2", "-".repeat(36) + "2=2", "2--3=5", "2---3=-1", "-(1+2)=-3");
    }

    static void terms1_minusAheadOfAThingBindsMost(Check check) {
        so(check, true, "-2*-3=6", "-7/2=-3", "6/-2=-3", "-2-1=-3", "-1+2=1", "--d*2=2");
    }

    static void terms1_numbersOfOneToThreeDigits(Check check) {
        so(check, true, "7=007", "07=7", "999>998", "0=000", "100-99=1");
    }

    static void terms1_bracketsGoFirst(Check check) {
        so(check, true, "(2+3)*4=20", "10-(3-2)=9", "100/(10/5)=50", "2*(1<2)=2", "((((1))))", "((1+1)*(1+1))=4");
    }

    static void terms1_theRuleReckonsAsInts(Check check) {
        // 999 * 999 * 999 is 997002999: three and four times that come out below 0, five times that above it
        so(check, false, "999*999*999*3", "999*999*999*4");
        so(check, true, "999*999*999*2", "999*999*999*3<0", "999*999*999*5>0", "999*999*999*3/2<0");
    }

    static void terms1_theLeastIntStaysItselfTurnedAbout(Check check) {
        so(check, true, "128*256*256*256<0", "-(128*256*256*256)<0", "128*256*256*256/-1<0", "128*256*256*256-1>0");
    }

    static void terms1_aViewCanBeFormedIfItIsAboveZero(Check check) {
        so(check, true, "1", "2", "999");
        so(check, false, "0", "-1", "-999", "d-1", "1/2");
    }

    static void terms1_noViewOfWhatItHasAlready(Check check) {
        PramGardens g = garden("23ab....", "023", "1");
        check.is("of none", g.sees(0), 3);
        g.sheet(0, 1, 2, 0);
        check.is("of b", g.sees(0), 1);
        g.sheet(0, 1, 3, 0);
        check.is("of both", g.sees(0), 0);
    }

    static void terms1_dIsOneForTheNextField(Check check) {
        PramGardens g = garden("26.abcde......", "001");
        for (int d = 1; d <= 5; d++) {
            check.is("d=" + d, withRule(g, "d=" + d).sees(0), 1 << d - 1);
        }
    }

    static void terms1_sIsTheNumberOfTheSight(Check check) {
        PramGardens g = garden("26.fedcb......", "001");
        for (int s = 1; s <= 5; s++) {
            check.is("s=" + s, withRule(g, "s=" + s).sees(0), 1 << s);
        }
        check.is("s=0", withRule(garden("22.a..", "001"), "s=0").sees(0), 1);
    }

    static void terms1_vIsHowManyViewsItHas(Check check) {
        PramGardens g = garden("22.a..", "001;000");
        int[] views = {0, 2, 6, 14, 30, 62};
        for (int v = 0; v <= 5; v++) {
            g.sheet(0, 2, views[v], 62 - views[v]);
            check.is("v=" + v, withRule(g, "v=" + v).sees(0), 1);
            check.is("v<" + v, withRule(g, "v<" + v).sees(0), 0);
        }
    }

    static void terms1_hIsTheWay(Check check) {
        PramGardens g = garden("33.a.a.a.a.", "111");
        for (int h = 0; h < 4; h++) {
            withRule(g, "h=" + h);
            for (int way = 0; way < 4; way++) {
                check.is("h=" + h + " to WAY " + way, g.would(0, 4, way), h == way ? 1 : 0);
            }
        }
    }

    static void terms1_kIsHowManyOthersAreOnItsField(Check check) {
        PramGardens g = garden("23.a....", "001;001;001;021");
        check.is("k=2", withRule(g, "k=2").sees(0), 1);
        check.is("k=3, two others", withRule(g, "k=3").sees(0), 0);
        g.pushes(3, 3);
        g.pushes(3, 3);
        check.is("k=3", g.sees(0), 1);
        check.is("k=0 where none is", withRule(g, "k=0").would(0, 2, 3), 1);
    }

    static void terms1_iIsTheNumberOfThePram(Check check) {
        PramGardens g = garden("22.a..", "001;001;001;001");
        for (int i = 0; i < 4; i++) {
            withRule(g, "i=" + i);
            for (int pram = 0; pram < 4; pram++) {
                check.is("i=" + i + " of " + pram, g.sees(pram), i == pram ? 1 : 0);
            }
        }
    }

    static void terms1_nIsTheMinuteBySevenItsRest(Check check) {
        PramGardens g = garden("22.a..", "001");
        for (int minute = 0; minute <= 15; minute++) {
            check.is("at MINUTE " + minute, withRule(g, "n=" + minute % 7).sees(0), 1);
            g.minutes(1);
        }
        check.is("n<0", withRule(g, "n<0").sees(0), 0);
        check.is("n>6", withRule(g, "n>6").sees(0), 0);
    }

    static void terms1_looksToTheEdge(Check check) {
        PramGardens g = garden("62a." + "..".repeat(4) + ".b", "500;011", "1");
        check.is("up to the first ROW", g.sees(0), 1);
        check.is("down to the last ROW", g.would(0, 1, 2), 2);
        check.is("at the edge there is none", g.sees(1), 0);
    }

    static void terms1_looksToTheFirstWallAlone(Check check) {
        PramGardens g = garden("26.a#b........", "001", "1");
        check.is("ahead of the WALL", g.sees(0), 1);
        check.is("beyond it", g.would(0, 4, 3), 2);
    }

    static void terms1_othersAndSlopesDoNotHideASight(Check check) {
        check.is("behind a PRAM and a SLOPE", garden("24..0a....", "001;011", "1").sees(0), 1);
    }

    static void terms1_theNearestOneOfASightAlone(Check check) {
        PramGardens g = garden("26.ab.ab......", "001");
        check.is("the nearest a, b", withRule(g, "d<3").sees(0), 3);
        check.is("the farther a, b", withRule(g, "d>2").sees(0), 0);
        check.is("the nearest b, the farther a", withRule(g, "d>1").sees(0), 2);
    }

    static void terms1_allByViewsAsAheadOfLooking(Check check) {
        PramGardens g = garden("24.abc....", "000", "v=0");
        check.is("all at once", g.faces(0, 1), 7);
        check.is("none behind that", garden("24.abc....", "000", "1-v").faces(0, 1), 7);
    }

    static void terms1_oneOnASightDoesNotSeeThatField(Check check) {
        PramGardens g = garden("22a...", "000", "1");
        for (int way = 1; way < 4; way++) {
            check.is("turned to " + way, g.faces(0, way), 0);
        }
        check.is("pushed onto it", garden("22a...", "102", "d<1").pushes(0, 0), 0);
    }

    // ---- terms 2: the ROW, questions, refusals

    static void terms2_fractionsAreInLowestTerms(Check check) {
        PramGardens g = garden("22....", "000");
        g.strays(0, 2, 0);
        check.row("6 of 16", g, 3, 8);
        g.strays(0, 2, 3);
        check.row("2 of 16", g, 1, 8);
    }

    static void terms2_fractionZeroIsZeroByOne(Check check) {
        PramGardens g = garden("22....", "000");
        g.strays(0, 1, 3);
        check.row("0 of 4", g, 0, 1);
    }

    static void terms2_aWholeFractionIsOneByOne(Check check) {
        PramGardens g = garden("22.##.", "000");
        g.strays(0, 8, 0);
        check.row("all of 65536", g, 1, 1);
    }

    private static PramGardens busy() {
        PramGardens g = garden("33a1b.#.2.c", "200;010;220", "5-d");
        g.sheet(0, 3, 1, 1);
        g.looses(1);
        g.saw(3, 3, 1);
        g.heard(4, 0);
        g.keep(0);
        return g;
    }

    static void terms2_questionsOfPramsChangeNothing(Check check) {
        PramGardens g = busy();
        check.question("sees(0)", g, 0, () -> g.sees(0));
        check.question("would(0, 6, 1)", g, 4, () -> g.would(0, 6, 1));
        check.question("stands(0)", g, 2, () -> g.stands(0));
        check.question("forms(0, 7)", g, 3, () -> g.forms(0, 7));
        check.question("most(0)", g, 3, () -> g.most(0));
        check.question("ways(0, 5, 2)", g, 2, () -> g.ways(0, 5, 2));
        check.question("strays(0, 3, 3)", g, 0, () -> g.strays(0, 3, 3));
        check.question("stops(1)", g, 2, () -> g.stops(1));
    }

    static void terms2_questionsOfGardensChangeNothing(Check check) {
        PramGardens g = busy();
        check.question("way(6, 2)", g, 4, () -> g.way(6, 2));
        check.question("reach(0)", g, 8, () -> g.reach(0));
        check.question("parts()", g, 1, g::parts);
        check.question("gates()", g, 0, g::gates);
        check.question("nearest()", g, 2, g::nearest);
        check.question("rounds()", g, 0, g::rounds);
        check.question("basin(6)", g, 1, () -> g.basin(6));
    }

    static void terms2_questionsOfLawsAndGamesChangeNothing(Check check) {
        PramGardens g = busy();
        check.question("laws()", g, 12, g::laws);
        check.question("looks()", g, 15, g::looks);
        check.question("fits()", g, 5, g::fits);
        check.question("asks()", g, 10, g::asks);
        check.question("pond(1, 2, 2)", g, 1, () -> g.pond(1, 2, 2));
        check.question("shoulders(9)", g, 11, () -> g.shoulders(9));
        check.question("years(2, 60)", g, busy().years(2, 60), () -> g.years(2, 60));
    }

    static void terms2_questionsLeaveTheTextAlone(Check check) {
        PramGardens g = write(busy(), "22....");
        g.sees(0);
        g.way(0, 1);
        g.laws();
        g.years(1, 1);
        check.is("count(12)", g.count(12), 6);
        check.is("gardens()", g.gardens(), 4);
    }

    static void terms2_aCallThatReadsEmptiesTheText(Check check) {
        PramGardens g = garden("22....", "");
        write(g, "000").prams();
        check.is("behind prams()", g.count(12), 0);
        write(g, "1").rule();
        check.is("behind rule()", g.count(12), 0);
        write(g, "n1").walk();
        check.is("behind walk()", g.count(12), 0);
        write(g, "1").law();
        check.is("behind law()", g.count(12), 0);
        write(g, "22....").gardens();
        check.is("behind gardens()", g.count(12), 0);
    }

    static void terms2_aRefusedCallThatReadsEmptiesTheTextAlone(Check check) {
        PramGardens g = busy();
        check.refusedText("gardens()", g, "x", -1, g::gardens);
        check.refusedText("prams()", g, "x", -1, g::prams);
        check.refusedText("rule()", g, "x", -1, g::rule);
        check.refusedText("walk()", g, "x", -1, g::walk);
        check.refusedText("law()", g, "x", -10000, g::law);
    }

    static void terms2_otherRefusedCallsLeaveTheTextAlone(Check check) {
        PramGardens g = write(busy(), "22....");
        g.pushes(9, 9);
        g.minutes(61);
        g.sheet(4, 0, 0, 0);
        g.years(0, 0);
        g.keep(3);
        g.end(7);
        check.is("count(12)", g.count(12), 6);
        check.is("gardens()", g.gardens(), 4);
    }

    static void terms2_theRowStaysWithEachRefusedAct(Check check) {
        PramGardens g = busy();
        g.laws();
        check.refused("pushes() of a LOOSE one", g, -2, () -> g.pushes(1, 1));
        check.refused("pushes() to the edge", g, -3, () -> g.pushes(0, 3));
        check.refused("faces() of its own WAY", g, -3, () -> g.faces(0, 0));
        check.refused("looses() of a LOOSE one", g, -2, () -> g.looses(1));
        check.refused("catches() of another", g, -2, () -> g.catches(0));
        check.refused("minutes(61)", g, -1, () -> g.minutes(61));
        check.refused("forgets() of what it has not", g, -2, () -> g.forgets(0, 5));
    }

    static void terms2_theRowStaysWithEachRefusedQuestion(Check check) {
        PramGardens g = busy();
        g.laws();
        check.refused("sees(3)", g, -1, () -> g.sees(3));
        check.refused("would() on a WALL", g, -2, () -> g.would(0, 4, 0));
        check.refused("way() to a WALL", g, -2, () -> g.way(0, 4));
        check.refused("reach() from a WALL", g, -2, () -> g.reach(4));
        check.refused("forms() by none", g, -2, () -> g.forms(0, 8));
        check.refused("most() of a LOOSE one", g, -3, () -> g.most(1));
        check.refused("basin() of a WALL", g, -2, () -> g.basin(4));
    }

    static void terms2_theRowStaysIfThereIsNone(Check check) {
        PramGardens g = garden("2312.03.", "000");
        g.shoulders(20);
        check.refused("stops(), never", g, -2, () -> g.stops(0));
        check.refused("nearest() of one", g, -2, g::nearest);
        g.saw(1, 0, 0);
        check.refused("looks(), none fits", g, -2, g::looks);
        g.heard(4, 1);
        check.refused("asks(), none fits", g, -2, g::asks);
        check.refused("undo() of none", g, -1, g::undo);
    }

    static void terms2_noneComesAheadOfOtherAnswersBelowZero(Check check) {
        PramGardens g = garden("22.#..", "000");
        g.looses(0);
        check.is("pushes() of a LOOSE one to WAY 4", g.pushes(0, 4), -1);
        check.is("faces() of a LOOSE one to WAY 4", g.faces(0, 4), -1);
        check.is("would() on a WALL to WAY 4", g.would(0, 1, 4), -1);
        check.is("would() of none on a WALL", g.would(1, 1, 0), -1);
        check.is("way() from a WALL to none", g.way(1, 4), -1);
        check.is("way() from none to a WALL", g.way(-1, 1), -1);
        check.is("forms() of a LOOSE one of 64", g.forms(0, 64), -1);
        check.is("ways() of a LOOSE one, n 6", g.ways(0, 0, 6), -1);
        check.is("ways() of a LOOSE one of 64", g.ways(0, 64, 0), -1);
        check.is("sheet() of kind 4, n below 0", g.sheet(4, -1, 0, 0), -1);
        check.is("sheet() of a missing one, n above 4", g.sheet(3, 5, 0, 0), -1);
        check.is("forgets() of SIGHT 6", g.forgets(0, 6), -1);
    }
}
