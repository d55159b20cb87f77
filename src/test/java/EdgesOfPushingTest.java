/** The edges that promises 10 to 17 name: pushing, turning, letting go, minutes, forgetting, walks and what is undone. */
public final class EdgesOfPushingTest extends Cases {
    public static void main(String[] args) throws Exception {
        runAll(EdgesOfPushingTest.class);
    }

    // ---- promise 10: pushes

    static void p10_itGoesAFieldOnByEachWay(Check check) {
        int[] due = {1, 5, 7, 3};
        for (int way = 0; way < 4; way++) {
            PramGardens g = garden("33.........", "110");
            check.is("pushes(0, " + way + ")", g.pushes(0, way), 0);
            check.is("FIELD", g.pram(0, 0), due[way]);
            check.is("WAY", g.pram(0, 1), way);
            check.row("pushes(0, " + way + ")", g, due[way], 0);
        }
    }

    static void p10_itLooksFromWhereItHasCome(Check check) {
        // 4 FIELDS off ahead of the push, 3 behind it
        PramGardens g = garden("26.....a......", "011");
        check.is("pushes(0, 1)", g.pushes(0, 1), 1);
        check.row("pushes(0, 1)", g, 2, 1);
    }

    static void p10_itLooksByItsNewWay(Check check) {
        PramGardens g = garden("33.....a.b.", "111");
        check.is("pushes(0, 3)", g.pushes(0, 3), 0);
        check.is("pushes(0, 2) to b's ROW", g.pushes(0, 2), 0);
        check.is("pushes(0, 1)", g.pushes(0, 1), 0);
        check.is("WAY", g.pram(0, 1), 1);
    }

    static void p10_theRowTellsAllViewsNotTheNewOnesAlone(Check check) {
        PramGardens g = garden("23...a..", "002");
        g.sheet(0, 1, 62, 0);
        g.pushes(0, 1);
        check.is("pushes(0, 2)", g.pushes(0, 2), 0);
        check.is("pushes(0, 3)", g.pushes(0, 3), 0);
        check.row("pushes(0, 3)", g, 3, 5);
        g.pushes(0, 1);
        check.is("VIEWS", g.pram(0, 2), 62);
    }

    static void p10_viewsFormedAreTheNewOnesAlone(Check check) {
        PramGardens g = garden("24...a...b", "000;100", "9");
        g.sheet(0, 1, 2, 0);
        check.is("pushes(0, 1)", g.pushes(0, 1), 1);
        check.row("pushes(0, 1)", g, 1, 2);
        check.is("VIEWS", g.pram(0, 2), 3);
        check.is("pushes(0, 1), none new", g.pushes(0, 1), 0);
        check.row("pushes(0, 1), none new", g, 2, 2);
    }

    static void p10_eachEdgeIsRefused(Check check) {
        PramGardens g = garden("22....", "002;113");
        g.laws();
        check.refused("up from the first ROW", g, -3, () -> g.pushes(0, 0));
        check.refused("left from the first COLUMN", g, -3, () -> g.pushes(0, 3));
        check.refused("down from the last ROW", g, -3, () -> g.pushes(1, 2));
        check.refused("right from the last COLUMN", g, -3, () -> g.pushes(1, 1));
    }

    static void p10_aWallIsRefused(Check check) {
        PramGardens g = garden("33.#.#.#.#.", "112");
        for (int way = 0; way < 4; way++) {
            int one = way;
            check.refused("to WAY " + way, g, -3, () -> g.pushes(0, one));
        }
    }

    static void p10_aLooseOneIsRefused(Check check) {
        PramGardens g = garden("22....", "000;000");
        g.looses(0);
        check.refused("pushes(0, 1)", g, -2, () -> g.pushes(0, 1));
        check.is("the other one", g.pushes(1, 1), 0);
        g.catches(0);
        check.is("behind catches()", g.pushes(0, 1), 0);
    }

    static void p10_othersAreNone(Check check) {
        PramGardens g = garden("22....", "000;000");
        check.refused("PRAM -1", g, -1, () -> g.pushes(-1, 1));
        check.refused("PRAM 2", g, -1, () -> g.pushes(2, 1));
        check.refused("WAY -1", g, -1, () -> g.pushes(0, -1));
        check.refused("WAY 4", g, -1, () -> g.pushes(0, 4));
        check.refused("PRAM max", g, -1, () -> g.pushes(Integer.MAX_VALUE, 1));
        check.refused("WAY min", g, -1, () -> g.pushes(0, Integer.MIN_VALUE));
        check.is("without PRAMS", new PramGardens().pushes(0, 1), -1);
    }

    static void p10_othersOnTheFieldAreNoHindrance(Check check) {
        PramGardens g = garden("22....", "000;010");
        check.is("pushes(0, 1)", g.pushes(0, 1), 0);
        check.is("FIELD", g.pram(0, 0), 1);
        check.is("FIELD of the other", g.pram(1, 0), 1);
    }

    static void p10_slopesAreNoHindrance(Check check) {
        PramGardens g = garden("2203..", "000");
        check.is("against a SLOPE", g.pushes(0, 1), 0);
        check.is("FIELD", g.pram(0, 0), 1);
        check.is("MINUTE", g.count(5), 0);
    }

    // ---- promise 11: faces

    static void p11_itTurnsAndLooks(Check check) {
        PramGardens g = garden("33.a.d.b.c.", "110");
        int[] due = {2, 4, 8, 1};
        for (int i = 0; i < 4; i++) {
            int way = (i + 1) % 4;
            check.is("faces(0, " + way + ")", g.faces(0, way), due[i]);
            check.row("faces(0, " + way + ")", g, 4, i + 1);
            check.is("WAY", g.pram(0, 1), way);
        }
    }

    static void p11_itStaysOnItsField(Check check) {
        PramGardens g = garden("22....", "000");
        g.faces(0, 1);
        check.is("FIELD", g.pram(0, 0), 0);
    }

    static void p11_itCanBeTurnedToAWallOrTheEdge(Check check) {
        PramGardens g = garden("22.#..", "002");
        check.is("to a WALL", g.faces(0, 1), 0);
        check.is("to the edge", g.faces(0, 0), 0);
        check.row("to the edge", g, 0, 0);
    }

    static void p11_itsOwnWayIsRefused(Check check) {
        PramGardens g = garden("22.a..", "001");
        check.refused("faces(0, 1)", g, -3, () -> g.faces(0, 1));
        check.is("VIEWS", g.pram(0, 2), 0);
    }

    static void p11_aLooseOneIsRefused(Check check) {
        PramGardens g = garden("22....", "000;000");
        g.looses(1);
        check.refused("faces(1, 1)", g, -2, () -> g.faces(1, 1));
        check.is("the other one", g.faces(0, 1), 0);
    }

    static void p11_othersAreNone(Check check) {
        PramGardens g = garden("22....", "000;000");
        check.refused("PRAM -1", g, -1, () -> g.faces(-1, 1));
        check.refused("PRAM 2", g, -1, () -> g.faces(2, 1));
        check.refused("WAY -1", g, -1, () -> g.faces(0, -1));
        check.refused("WAY 4", g, -1, () -> g.faces(0, 4));
        check.refused("WAY max", g, -1, () -> g.faces(0, Integer.MAX_VALUE));
        check.is("without PRAMS", new PramGardens().faces(0, 1), -1);
    }

    // ---- promises 12, 13: looses, catches

    static void p12_howManyAreLooseThen(Check check) {
        PramGardens g = garden("22....", "000;000;000;000");
        int[] order = {2, 0, 3, 1};
        int[] bits = {4, 5, 13, 15};
        for (int i = 0; i < 4; i++) {
            check.is("looses(" + order[i] + ")", g.looses(order[i]), i + 1);
            check.is("count(6)", g.count(6), bits[i]);
        }
    }

    static void p12_aLooseOneIsRefused(Check check) {
        PramGardens g = garden("22....", "000");
        g.looses(0);
        check.refused("looses(0)", g, -2, () -> g.looses(0));
    }

    static void p12_noneSuch(Check check) {
        PramGardens g = garden("22....", "000");
        check.refused("looses(-1)", g, -1, () -> g.looses(-1));
        check.refused("looses(1)", g, -1, () -> g.looses(1));
        check.refused("looses(32)", g, -1, () -> g.looses(32));
        check.is("without PRAMS", new PramGardens().looses(0), -1);
    }

    static void p12_itDoesNotRunByThatAlone(Check check) {
        PramGardens g = garden("221...", "000");
        g.looses(0);
        check.is("FIELD", g.pram(0, 0), 0);
        check.is("MINUTE", g.count(5), 0);
        check.row("no ROW", g);
    }

    static void p13_howManyAreLooseThen(Check check) {
        PramGardens g = garden("22....", "000;000;000");
        g.looses(0);
        g.looses(2);
        check.is("catches(0)", g.catches(0), 1);
        check.is("count(6)", g.count(6), 4);
        check.is("catches(2)", g.catches(2), 0);
        check.is("count(6)", g.count(6), 0);
    }

    static void p13_oneThatIsNotLooseIsRefused(Check check) {
        PramGardens g = garden("22....", "000;000");
        g.looses(1);
        check.refused("catches(0)", g, -2, () -> g.catches(0));
        g.catches(1);
        check.refused("catches(1) twice", g, -2, () -> g.catches(1));
    }

    static void p13_noneSuch(Check check) {
        PramGardens g = garden("22....", "000");
        g.looses(0);
        check.refused("catches(-1)", g, -1, () -> g.catches(-1));
        check.refused("catches(1)", g, -1, () -> g.catches(1));
        check.refused("catches(32)", g, -1, () -> g.catches(32));
        check.is("without PRAMS", new PramGardens().catches(0), -1);
    }

    static void p13_theRowStays(Check check) {
        PramGardens g = garden("22....", "000");
        g.laws();
        g.looses(0);
        g.catches(0);
        check.row("laws()", g, 1, 0);
    }

    // ---- promise 14: minutes

    static void p14_zeroMinutes(Check check) {
        PramGardens g = garden("221...", "000");
        g.looses(0);
        check.is("minutes(0)", g.minutes(0), 1);
        check.row("minutes(0)", g, 0, 0);
        check.is("MINUTE", g.count(5), 0);
        check.is("FIELD", g.pram(0, 0), 0);
    }

    static void p14_sixtyMinutes(Check check) {
        PramGardens g = garden("221203", "000");
        g.looses(0);
        check.is("minutes(60)", g.minutes(60), 1);
        check.row("minutes(60)", g, 60, 0);
        check.is("MINUTE", g.count(5), 60);
    }

    static void p14_otherNumbersAreRefused(Check check) {
        PramGardens g = garden("221...", "000");
        g.looses(0);
        for (int n : new int[] {-1, 61, Integer.MAX_VALUE, Integer.MIN_VALUE}) {
            check.refused("minutes(" + n + ")", g, -1, () -> g.minutes(n));
        }
    }

    static void p14_withoutPrams(Check check) {
        PramGardens g = new PramGardens();
        check.is("minutes(60)", g.minutes(60), 0);
        check.is("MINUTE", g.count(5), 60);
        check.row("minutes(60)", g, 0, 0);
    }

    static void p14_aLooseOneRunsByItsSlope(Check check) {
        String[] slopes = {"0", "1", "2", "3"};
        int[] due = {1, 5, 7, 3};
        for (int way = 0; way < 4; way++) {
            PramGardens g = garden("33...." + slopes[way] + "....", "11" + (way + 1) % 4);
            g.looses(0);
            check.is("minutes(1)", g.minutes(1), 1);
            check.is("FIELD", g.pram(0, 0), due[way]);
            check.is("WAY", g.pram(0, 1), way);
            check.row("minutes(1)", g, 1, 0);
        }
    }

    static void p14_itIsLooseNoMoreAMinuteBehindItsLastField(Check check) {
        PramGardens g = garden("231.....", "000");
        g.looses(0);
        check.is("it has gone", g.minutes(1), 1);
        check.is("it has stopped", g.minutes(1), 0);
        check.row("it has stopped", g, 0, 0);
        check.is("FIELD", g.pram(0, 0), 1);
    }

    static void p14_oneOnAPathOrSightStopsAndKeepsItsWay(Check check) {
        PramGardens g = garden("22.a..", "003;012");
        g.looses(0);
        g.looses(1);
        check.is("minutes(1)", g.minutes(1), 0);
        check.is("WAY of 0", g.pram(0, 1), 3);
        check.is("WAY of 1", g.pram(1, 1), 2);
        check.is("FIELD of 0", g.pram(0, 0), 0);
    }

    static void p14_oneOnASlopeToTheEdgeStopsAndKeepsItsWay(Check check) {
        PramGardens g = garden("220132", "001;012;110;101");
        for (int pram = 0; pram < 4; pram++) {
            g.looses(pram);
        }
        // up from 0, right from 1, down from 3, left from 2: all edges
        check.is("minutes(1)", g.minutes(1), 0);
        check.row("minutes(1)", g, 0, 0);
        int[] ways = {1, 2, 0, 1};
        for (int pram = 0; pram < 4; pram++) {
            check.is("WAY of " + pram, g.pram(pram, 1), ways[pram]);
        }
    }

    static void p14_oneOnASlopeToAWallStopsAndKeepsItsWay(Check check) {
        PramGardens g = garden("221#..", "002");
        g.looses(0);
        check.is("minutes(1)", g.minutes(1), 0);
        check.is("FIELD", g.pram(0, 0), 0);
        check.is("WAY", g.pram(0, 1), 2);
    }

    static void p14_oneThatStopsDoesNotLook(Check check) {
        PramGardens g = garden("22.a..", "001");
        g.looses(0);
        g.minutes(1);
        check.row("minutes(1)", g, 0, 0);
        check.is("VIEWS", g.pram(0, 2), 0);
    }

    static void p14_oneThatIsNotLooseStaysOnASlope(Check check) {
        PramGardens g = garden("221...", "000");
        check.is("minutes(5)", g.minutes(5), 0);
        check.is("FIELD", g.pram(0, 0), 0);
        check.is("WAY", g.pram(0, 1), 0);
    }

    static void p14_itLooksOnEachField(Check check) {
        PramGardens g = garden("26111.ab......", "000", "d=2");
        g.looses(0);
        check.is("minutes(3)", g.minutes(3), 1);
        // a from FIELD 2, b from FIELD 3
        check.row("minutes(3)", g, 3, 2);
        check.is("VIEWS", g.pram(0, 2), 3);
    }

    static void p14_theRowAddsUpAllPramsAndMinutes(Check check) {
        PramGardens g = garden("26111.ab......", "000;010;020");
        for (int pram = 0; pram < 3; pram++) {
            g.looses(pram);
        }
        check.is("minutes(9)", g.minutes(9), 0);
        // 3, 2 and 1 FIELDS; each forms a and b
        check.row("minutes(9)", g, 6, 6);
        check.is("MINUTE", g.count(5), 9);
    }

    static void p14_pramsGoByTheirNumbers(Check check) {
        // k: the later one finds the earlier one on the FIELD to which both go
        PramGardens g = garden("241.ab....", "000;000", "k");
        g.looses(0);
        g.looses(1);
        g.minutes(1);
        check.is("VIEWS of 0", g.pram(0, 2), 0);
        check.is("VIEWS of 1", g.pram(1, 2), 3);
    }

    static void p14_theMinuteIsOneMoreBehindAllPrams(Check check) {
        PramGardens g = garden("241.ab....", "000;000", "n=0");
        g.looses(0);
        g.looses(1);
        g.minutes(1);
        check.is("VIEWS of both", g.count(7), 4);
        check.is("MINUTE", g.count(5), 1);
        PramGardens later = garden("241.ab....", "000", "n=1");
        later.looses(0);
        later.minutes(1);
        check.is("VIEWS by n=1", later.count(7), 0);
    }

    // ---- promise 15: forgets

    static void p15_viewsThatItHasThen(Check check) {
        PramGardens g = garden("22....", "000");
        g.sheet(0, 1, 63, 0);
        int[] due = {62, 60, 56, 48, 32, 0};
        for (int sight = 0; sight < 6; sight++) {
            check.is("forgets(0, " + sight + ")", g.forgets(0, sight), due[sight]);
        }
    }

    static void p15_whatItHasNotIsRefused(Check check) {
        PramGardens g = garden("22....", "000");
        g.sheet(0, 1, 8, 0);
        check.refused("forgets(0, 2)", g, -2, () -> g.forgets(0, 2));
        check.is("forgets(0, 3)", g.forgets(0, 3), 0);
        check.refused("forgets(0, 3) twice", g, -2, () -> g.forgets(0, 3));
    }

    static void p15_othersAreNone(Check check) {
        PramGardens g = garden("22....", "000");
        g.sheet(0, 1, 63, 0);
        check.refused("SIGHT -1", g, -1, () -> g.forgets(0, -1));
        check.refused("SIGHT 6", g, -1, () -> g.forgets(0, 6));
        check.refused("SIGHT 32", g, -1, () -> g.forgets(0, 32));
        check.refused("PRAM -1", g, -1, () -> g.forgets(-1, 0));
        check.refused("PRAM 1", g, -1, () -> g.forgets(1, 0));
        check.is("without PRAMS", new PramGardens().forgets(0, 0), -1);
    }

    static void p15_itCanBeFormedAnew(Check check) {
        PramGardens g = garden("22.a..", "000");
        g.faces(0, 1);
        g.forgets(0, 0);
        check.is("sees(0)", g.sees(0), 1);
    }

    static void p15_ofALooseOne(Check check) {
        PramGardens g = garden("22....", "000");
        g.sheet(0, 1, 5, 0);
        g.looses(0);
        check.is("forgets(0, 0)", g.forgets(0, 0), 4);
        check.is("LOOSE", g.count(6), 1);
    }

    // ---- promise 16: walk

    private static PramGardens two() {
        return garden(ROUND, "200;020");
    }

    private static void walkIs(Check check, String text, int due) {
        PramGardens g = two();
        g.laws();
        if (due < 0) {
            check.refusedText("walk()", g, text, due, g::walk);
        } else {
            check.is("walk() of '" + text + "'", write(g, text).walk(), due);
        }
    }

    static void p16_anEmptyTextIsNothing(Check check) {
        PramGardens g = two();
        g.sheet(0, 2, 3, 4);
        check.is("walk()", write(g, "").walk(), 0);
        check.row("walk()", g, 0, 5);
        check.is("count(10)", g.count(10), 0);
    }

    static void p16_eachActIsDone(Check check) {
        PramGardens g = two();
        check.is("p01", write(g, "p01").walk(), 1);
        check.is("FIELD", g.pram(0, 0), 7);
        check.row("p01", g, 0, 1);
        check.is("t00", write(g, "t00").walk(), 1);
        check.is("WAY", g.pram(0, 1), 0);
        check.is("l1", write(g, "l1").walk(), 1);
        check.is("LOOSE", g.count(6), 2);
        check.is("c1", write(g, "c1").walk(), 1);
        check.is("LOOSE", g.count(6), 0);
        check.is("f02", write(g, "f02").walk(), 1);
        check.is("VIEWS", g.count(7), 0);
        check.is("n9", write(g, "n9").walk(), 1);
        check.is("MINUTE", g.count(5), 9);
        check.is("n0", write(g, "n0").walk(), 1);
        check.row("n0", g, 0, 0);
    }

    static void p16_actsAreDoneOneByOne(Check check) {
        PramGardens g = two();
        check.is("walk()", write(g, "p01p03p00n5l1").walk(), 5);
        check.row("walk()", g, 0, 2);
        check.is("FIELD", g.pram(0, 0), 3);
        check.is("MINUTE", g.count(5), 5);
        check.is("LOOSE", g.count(6), 2);
    }

    static void p16_tillOneIsRefused(Check check) {
        PramGardens g = two();
        check.is("walk()", write(g, "p01p01p01n9").walk(), 2);
        check.row("walk()", g, 1, 1);
        check.is("FIELD", g.pram(0, 0), 8);
        check.is("MINUTE", g.count(5), 0);
    }

    static void p16_theLastIsRefused(Check check) {
        PramGardens g = two();
        check.is("walk()", write(g, "n1l0l0").walk(), 2);
        check.row("walk()", g, 1, 0);
    }

    static void p16_theFirstIsRefused(Check check) {
        PramGardens g = two();
        check.is("walk()", write(g, "p03n9").walk(), 0);
        check.row("walk()", g, 1, 0);
        check.is("MINUTE", g.count(5), 0);
        check.is("count(10)", g.count(10), 0);
    }

    static void p16_eachKindOfRefusalEndsIt(Check check) {
        for (String act : new String[] {"p20", "p03", "t00", "t90", "l9", "c0", "c9", "f00", "f90"}) {
            PramGardens g = two();
            check.is("walk() of n1" + act + "n1", write(g, "n1" + act + "n1").walk(), 1);
            check.row("n1" + act + "n1", g, 1, 0);
            check.is("MINUTE", g.count(5), 1);
        }
    }

    static void p16_pushesAndTurnsOfALooseOneAreRefused(Check check) {
        walkIs(check, "l0p01", 1);
        walkIs(check, "l0t01", 1);
        walkIs(check, "l0c0p01", 3);
    }

    static void p16_viewsFormedInItCount(Check check) {
        PramGardens g = garden("22.a..", "000;000");
        write(g, "t01t11").walk();
        check.row("walk()", g, 0, 2);
    }

    static void p16_aTextThatEndsTooEarlyIsToldAtItsEnd(Check check) {
        walkIs(check, "n", -2);
        walkIs(check, "l", -2);
        walkIs(check, "c", -2);
        walkIs(check, "p", -2);
        walkIs(check, "p0", -3);
        walkIs(check, "t0", -3);
        walkIs(check, "f0", -3);
        walkIs(check, "n1n", -4);
        walkIs(check, "p01p0", -6);
    }

    static void p16_otherActsCantStand(Check check) {
        for (char sign : "xNP0 ;-mokqrsubdeg\u0000\u00ee".toCharArray()) {
            walkIs(check, sign + "11", -1);
        }
        walkIs(check, "n1x", -3);
        walkIs(check, "n11", -3);
        walkIs(check, "p011", -4);
        walkIs(check, "l00", -3);
        walkIs(check, "n1 n1", -3);
    }

    static void p16_theFirstDigitIsAnyDigit(Check check) {
        walkIs(check, "p90", 0);
        walkIs(check, "t90", 0);
        walkIs(check, "f90", 0);
        walkIs(check, "l9", 0);
        walkIs(check, "c9", 0);
        walkIs(check, "n9", 1);
        for (String act : new String[] {"n", "p", "t", "l", "c", "f"}) {
            walkIs(check, act + ":", -2);
            walkIs(check, act + "/", -2);
            walkIs(check, act + act, -2);
        }
    }

    static void p16_theSecondDigitIsAWayOrASight(Check check) {
        walkIs(check, "p03", 0);
        walkIs(check, "p04", -3);
        walkIs(check, "t03", 1);
        walkIs(check, "t04", -3);
        walkIs(check, "f05", 0);
        walkIs(check, "f06", -3);
        walkIs(check, "p0/", -3);
        walkIs(check, "t0x", -3);
        walkIs(check, "f0:", -3);
    }

    static void p16_sixtySignsCanStand(Check check) {
        walkIs(check, "n1".repeat(30), 30);
        walkIs(check, "t01t00".repeat(10), 20);
    }

    static void p16_sixtySignsThatEndTooEarly(Check check) {
        walkIs(check, "n1".repeat(29) + "p0", -61);
        walkIs(check, "t01".repeat(19) + "n1n", -61);
    }

    static void p16_moreThanSixtySignsAreToldAtSixty(Check check) {
        walkIs(check, "n1".repeat(31), -61);
        walkIs(check, "n1".repeat(30) + "x", -61);
        walkIs(check, "n1".repeat(29) + "p00", -61);
        walkIs(check, "n1".repeat(29) + "p0x", -61);
        walkIs(check, "t01".repeat(19) + "n1n1", -61);
        walkIs(check, "n1".repeat(40), -61);
    }

    static void p16_moreThanSixtySignsButOneAheadCantStand(Check check) {
        walkIs(check, "n1".repeat(29) + "nx1", -60);
        walkIs(check, "n1".repeat(29) + "xn1", -59);
        walkIs(check, "x" + "n1".repeat(35), -1);
    }

    static void p16_nothingIsDoneIfASignCantStand(Check check) {
        PramGardens g = two();
        check.refusedText("walk()", g, "n1p01x", -6, g::walk);
        check.is("MINUTE", g.count(5), 0);
        check.is("FIELD", g.pram(0, 0), 6);
    }

    // ---- promise 17: undo

    static void p17_ofNoneIsRefused(Check check) {
        PramGardens g = garden(ROUND, "200");
        check.refused("undo()", g, -1, g::undo);
        g.minutes(1);
        check.is("undo()", g.undo(), 0);
        check.refused("undo() twice", g, -1, g::undo);
    }

    static void p17_eachOfSixActsCanBeUndone(Check check) {
        PramGardens g = garden("33a.b.1...c", "200");
        g.pushes(0, 1);
        g.pushes(0, 0);
        g.faces(0, 3);
        g.looses(0);
        g.catches(0);
        g.looses(0);
        g.minutes(3);
        g.forgets(0, 2);
        // ahead of each act: FIELD, WAY, VIEWS, LOOSE, MINUTE
        int[][] due = {{5, 1, 4, 0, 3}, {4, 3, 4, 1, 0}, {4, 3, 4, 0, 0}, {4, 3, 4, 1, 0}, {4, 3, 4, 0, 0}, {4, 0, 4, 0, 0}
            , {7, 1, 4, 0, 0}, {6, 0, 0, 0, 0}};
        for (int i = 0; i < due.length; i++) {
            check.is("undo() " + i, g.undo(), due.length - 1 - i);
            for (int what = 0; what < 4; what++) {
                check.is("pram(0, " + what + ") behind undo() " + i, g.pram(0, what), due[i][what]);
            }
            check.is("MINUTE behind undo() " + i, g.count(5), due[i][4]);
        }
    }

    static void p17_allPramsAreAsAheadOfIt(Check check) {
        PramGardens g = garden("26111.ab......", "000;010;023;112");
        for (int pram = 0; pram < 4; pram++) {
            g.looses(pram);
        }
        g.minutes(4);
        check.is("undo()", g.undo(), 4);
        int[][] due = {{0, 0, 0, 1}, {1, 0, 0, 1}, {2, 3, 0, 1}, {7, 2, 0, 1}};
        check.prams(g, due);
    }

    static void p17_fifteenAreKept(Check check) {
        PramGardens g = garden(ROUND, "200");
        for (int i = 1; i <= 15; i++) {
            g.minutes(1);
            check.is("count(10)", g.count(10), i);
        }
        for (int i = 14; i >= 0; i--) {
            check.is("undo()", g.undo(), i);
        }
        check.is("MINUTE", g.count(5), 0);
        check.is("undo() of none", g.undo(), -1);
    }

    static void p17_ofSixteenTheLatestFifteenAreKept(Check check) {
        PramGardens g = garden(ROUND, "200");
        g.minutes(60);
        for (int i = 0; i < 15; i++) {
            g.minutes(1);
            check.is("count(10)", g.count(10), Math.min(15, i + 2));
        }
        for (int i = 14; i >= 0; i--) {
            check.is("undo()", g.undo(), i);
        }
        check.is("MINUTE", g.count(5), 60);
        check.is("undo() of the first", g.undo(), -1);
    }

    static void p17_ofFortyTheLatestFifteenAreKept(Check check) {
        PramGardens g = garden(ROUND, "200");
        for (int i = 0; i < 40; i++) {
            g.minutes(1);
        }
        check.is("count(10)", g.count(10), 15);
        for (int i = 14; i >= 0; i--) {
            check.is("undo()", g.undo(), i);
            check.is("MINUTE", g.count(5), 25 + i);
        }
        check.is("undo() of none", g.undo(), -1);
    }

    static void p17_ofSixteenPushesTheLatestFifteenAreKept(Check check) {
        PramGardens g = garden("66" + ".".repeat(36), "000");
        int[] fields = {0, 1, 2, 3, 4, 5, 11, 17, 23, 29, 35, 34, 33, 32, 31, 30, 24};
        for (int i = 0; i < 16; i++) {
            g.pushes(0, i < 5 ? 1 : i < 10 ? 2 : i < 15 ? 3 : 0);
        }
        check.is("FIELD", g.pram(0, 0), fields[16]);
        for (int i = 15; i >= 1; i--) {
            check.is("undo()", g.undo(), i - 1);
            check.is("FIELD", g.pram(0, 0), fields[i]);
        }
        check.is("undo() of none", g.undo(), -1);
    }

    static void p17_pramsOnTheLastFieldsComeBack(Check check) {
        PramGardens g = garden("66" + ".".repeat(36), "553;552;541;530");
        g.sheet(0, 4, 63, -1);
        for (int pram = 0; pram < 4; pram++) {
            g.looses(pram);
        }
        write(g, "c0c1c2c3t00p00t10p10t20p20p30n9").walk();
        check.is("undo()", g.undo(), 4);
        int[][] due = {{35, 3, 63, 1}, {35, 2, 62, 1}, {34, 1, 61, 1}, {33, 0, 60, 1}};
        check.prams(g, due);
    }

    static void p17_actsGoOnBehindIt(Check check) {
        PramGardens g = garden(ROUND, "200");
        g.minutes(1);
        g.minutes(2);
        g.undo();
        g.minutes(4);
        check.is("MINUTE", g.count(5), 5);
        check.is("undo()", g.undo(), 1);
        check.is("MINUTE", g.count(5), 1);
        check.is("undo()", g.undo(), 0);
        check.is("MINUTE", g.count(5), 0);
    }

    static void p17_itIsNotUndoneItself(Check check) {
        PramGardens g = garden(ROUND, "200");
        g.minutes(1);
        g.minutes(2);
        g.undo();
        check.is("count(10)", g.count(10), 1);
        g.undo();
        check.is("MINUTE", g.count(5), 0);
    }

    static void p17_refusedActsAreNotKept(Check check) {
        PramGardens g = garden(ROUND, "200");
        g.minutes(1);
        g.pushes(0, 3);
        g.pushes(0, 9);
        g.faces(0, 0);
        g.looses(1);
        g.catches(0);
        g.minutes(61);
        g.forgets(0, 0);
        write(g, "x").walk();
        check.is("count(10)", g.count(10), 1);
        check.is("undo()", g.undo(), 0);
        check.is("MINUTE", g.count(5), 0);
    }

    static void p17_actsThatChangeLittleAreKept(Check check) {
        PramGardens g = garden(ROUND, "200");
        g.minutes(0);
        check.is("minutes(0)", g.count(10), 1);
        write(g, "n0").walk();
        check.is("walk() of n0", g.count(10), 2);
    }

    static void p17_aWalkIsUndoneAsOne(Check check) {
        PramGardens g = garden(ROUND, "200");
        g.minutes(1);
        write(g, "p01p01n5l0").walk();
        check.is("count(10)", g.count(10), 2);
        check.is("undo()", g.undo(), 1);
        check.is("FIELD", g.pram(0, 0), 6);
        check.is("VIEWS", g.pram(0, 2), 0);
        check.is("LOOSE", g.pram(0, 3), 0);
        check.is("MINUTE", g.count(5), 1);
    }

    static void p17_aWalkOfOneActDoneIsKept(Check check) {
        PramGardens g = garden(ROUND, "200");
        check.is("walk()", write(g, "n5p03").walk(), 1);
        check.is("count(10)", g.count(10), 1);
        check.is("undo()", g.undo(), 0);
        check.is("MINUTE", g.count(5), 0);
    }

    static void p17_aWalkOfNoActDoneIsNotKept(Check check) {
        PramGardens g = garden(ROUND, "200");
        g.minutes(1);
        write(g, "").walk();
        check.is("an empty one", g.count(10), 1);
        write(g, "p03n5").walk();
        check.is("one whose first act is refused", g.count(10), 1);
        write(g, "n5x").walk();
        check.is("one that can't be read", g.count(10), 1);
    }

    static void p17_gardensForgetThem(Check check) {
        PramGardens g = garden(ROUND, "200");
        g.minutes(1);
        write(g, "22...").gardens();
        check.is("refused gardens() do not", g.count(10), 1);
        write(g, ROUND).gardens();
        check.is("count(10)", g.count(10), 0);
        check.is("undo()", g.undo(), -1);
    }

    static void p17_pramsForgetThem(Check check) {
        PramGardens g = garden(ROUND, "200");
        g.minutes(1);
        write(g, "209").prams();
        check.is("refused prams() do not", g.count(10), 1);
        write(g, "").prams();
        check.is("an empty prams() does not", g.count(10), 1);
        write(g, "200").prams();
        check.is("count(10)", g.count(10), 0);
        check.is("undo()", g.undo(), -1);
        check.is("MINUTE stays", g.count(5), 1);
    }

    static void p17_againForgetsThem(Check check) {
        PramGardens g = garden(ROUND, "200");
        g.keep(0);
        g.minutes(1);
        g.again(1);
        check.is("a refused again() does not", g.count(10), 1);
        g.again(3);
        check.is("another refused again() does not", g.count(10), 1);
        g.again(0);
        check.is("count(10)", g.count(10), 0);
        check.is("undo()", g.undo(), -1);
    }

    static void p17_otherCallsDoNotForgetThem(Check check) {
        PramGardens g = garden(ROUND, "200");
        g.minutes(1);
        g.keep(0);
        write(g, "1").rule();
        g.sheet(0, 1, 5, 0);
        g.saw(1, 1, 1);
        g.denies();
        g.heard(1, 1);
        g.forget();
        g.years(1, 60);
        write(g, "1").law();
        check.is("undo()", g.undo(), 0);
        check.is("MINUTE", g.count(5), 0);
    }

    static void p17_theRowStays(Check check) {
        PramGardens g = garden(ROUND, "200");
        g.pushes(0, 1);
        g.undo();
        check.row("pushes(0, 1)", g, 7, 1);
    }

    static void p17_theRuleAndWhatWasSeenStay(Check check) {
        PramGardens g = garden("26.....a......", "001");
        g.minutes(1);
        withRule(g, "9-d");
        g.saw(1, 1, 1);
        g.heard(1, 1);
        g.undo();
        check.is("sees(0)", g.sees(0), 1);
        check.is("what was seen", g.count(8), 1);
        check.is("what was heard", g.count(9), 1);
    }
}
