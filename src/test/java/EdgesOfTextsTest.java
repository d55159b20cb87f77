/** The edges that promises 1 to 9 name: texts, gardens, prams, rules, fields and sheets. */
public final class EdgesOfTextsTest extends Cases {
    public static void main(String[] args) throws Exception {
        runAll(EdgesOfTextsTest.class);
    }

    // ---- promise 1: a new object

    static void p01_aNewObjectHasTwoRowsAndTwoColumns(Check check) {
        PramGardens g = new PramGardens();
        check.is("ROWS", g.count(0), 2);
        check.is("COLUMNS", g.count(1), 2);
        check.throwsNone("field(4)", () -> g.field(4));
    }

    static void p01_allItsFieldsArePaths(Check check) {
        PramGardens g = new PramGardens();
        for (int field = 0; field < 4; field++) {
            check.is("field(" + field + ")", g.field(field), 0);
        }
        check.is("no WALLS", g.count(3), 4);
        check.is("no SIGHTS", g.count(4), 0);
    }

    static void p01_itHasNoPrams(Check check) {
        PramGardens g = new PramGardens();
        check.is("count(2)", g.count(2), 0);
        check.throwsNone("pram(0, 0)", () -> g.pram(0, 0));
    }

    static void p01_nothingElseHasCome(Check check) {
        PramGardens g = new PramGardens();
        for (int what = 5; what <= 12; what++) {
            check.is("count(" + what + ")", g.count(what), 0);
        }
        check.is("undo()", g.undo(), -1);
        check.is("again(0)", g.again(0), false);
        check.row("a new object", g);
    }

    static void p01_pramsCanComeAtOnce(Check check) {
        PramGardens g = write(new PramGardens(), "113");
        check.is("prams()", g.prams(), 1);
        check.is("pushes(0, 3)", g.pushes(0, 3), 0);
        check.is("FIELD", g.pram(0, 0), 2);
    }

    static void p01_objectsShareNothing(Check check) {
        PramGardens one = garden("33" + "#".repeat(9), "");
        PramGardens other = new PramGardens();
        check.is("ROWS of another", other.count(0), 2);
        check.is("WALLS of another", other.count(3), 4);
        check.is("ROWS of the one", one.count(0), 3);
    }

    // ---- promise 2: sign

    static void p02_theHighestByteComesFirst(Check check) {
        PramGardens g = new PramGardens();
        check.is("sign", g.sign('2' << 24 | '2' << 16 | '#' << 8 | 'a'), 4);
        check.is("sign", g.sign('.' << 24 | '1' << 16), 8);
        g.end(6);
        check.is("gardens()", g.gardens(), 4);
        int[] due = {1, 10, 0, 21};
        for (int field = 0; field < 4; field++) {
            check.is("field(" + field + ")", g.field(field), due[field]);
        }
    }

    static void p02_bytesOfZeroAreSignsToo(Check check) {
        PramGardens g = new PramGardens();
        check.is("sign(0)", g.sign(0), 4);
        check.is("gardens() of them", g.gardens(), -1);
    }

    static void p02_bytesAbove127AreSignsToo(Check check) {
        PramGardens g = new PramGardens();
        check.is("sign(-1)", g.sign(-1), 4);
        check.is("rule() of them", g.rule(), -1);
        // '.' with the highest bit
        check.is("gardens()", write(g, "22\u00ae...").gardens(), -3);
    }

    static void p02_eachAnswersHowManyThereAre(Check check) {
        PramGardens g = new PramGardens();
        for (int i = 1; i <= 20; i++) {
            check.is("sign " + i, g.sign(i), 4 * i);
            check.is("count(12)", g.count(12), 4 * i);
        }
    }

    static void p02_eightySignsHaveRoom(Check check) {
        PramGardens g = write(new PramGardens(), ".".repeat(76));
        check.is("sign from 76", g.sign(0), 80);
    }

    static void p02_moreThanEightyAreRefused(Check check) {
        PramGardens g = write(new PramGardens(), "66" + ".".repeat(36) + "x".repeat(42));
        check.is("sign from 80", g.sign('2' << 24), -1);
        check.is("count(12)", g.count(12), 80);
        g.end(38);
        check.is("the signs stay", g.gardens(), 36);
    }

    static void p02_fourAreRefusedIfNotAllHaveRoom(Check check) {
        for (int n = 77; n < 80; n++) {
            PramGardens g = write(new PramGardens(), ".".repeat(n));
            check.is("sign from " + n, g.sign(0), -1);
            check.is("count(12)", g.count(12), n);
        }
    }

    static void p02_thereIsRoomAgainBehindARead(Check check) {
        PramGardens g = write(new PramGardens(), ".".repeat(80));
        g.gardens();
        check.is("sign", g.sign(0), 4);
    }

    // ---- promise 3: end

    static void p03_theFirstSignsAloneAreLeft(Check check) {
        PramGardens g = write(new PramGardens(), "22....xx");
        check.is("end(6)", g.end(6), true);
        check.is("count(12)", g.count(12), 6);
        check.is("gardens()", g.gardens(), 4);
    }

    static void p03_asManyAsItHas(Check check) {
        PramGardens g = write(new PramGardens(), "abcd");
        check.is("end(4) of 4", g.end(4), true);
        check.is("count(12)", g.count(12), 4);
    }

    static void p03_noneAreLeftOfZero(Check check) {
        PramGardens g = write(new PramGardens(), "abcd");
        check.is("end(0)", g.end(0), true);
        check.is("count(12)", g.count(12), 0);
        check.is("end(0) of none", g.end(0), true);
    }

    static void p03_moreThanItHasIsFalse(Check check) {
        PramGardens g = write(new PramGardens(), "abcd");
        check.is("end(5) of 4", g.end(5), false);
        check.is("end(max) of 4", g.end(Integer.MAX_VALUE), false);
        check.is("count(12)", g.count(12), 4);
        check.is("end(1) of none", new PramGardens().end(1), false);
    }

    static void p03_belowZeroIsFalse(Check check) {
        PramGardens g = write(new PramGardens(), "abcd");
        check.is("end(-1)", g.end(-1), false);
        check.is("end(min)", g.end(Integer.MIN_VALUE), false);
        check.is("count(12)", g.count(12), 4);
        check.is("end(-1) of none", new PramGardens().end(-1), false);
    }

    static void p03_whatWasCutIsGone(Check check) {
        PramGardens g = write(new PramGardens(), "abcd");
        g.end(3);
        check.is("end(4) of 3", g.end(4), false);
    }

    static void p03_signsComeBehindTheCut(Check check) {
        PramGardens g = write(new PramGardens(), "22xx");
        g.end(2);
        check.is("sign", g.sign('.' << 24 | '.' << 16 | '.' << 8 | '.'), 6);
        check.is("gardens()", g.gardens(), 4);
    }

    // ---- promise 4: gardens

    private static void gardensAre(Check check, String text, int due) {
        PramGardens g = write(new PramGardens(), text);
        check.is("gardens() of '" + text + "'", g.gardens(), due);
    }

    static void p04_theSmallestAndTheLargest(Check check) {
        gardensAre(check, "22....", 4);
        gardensAre(check, "66" + ".".repeat(36), 36);
        gardensAre(check, "26" + ".".repeat(12), 12);
        gardensAre(check, "62" + ".".repeat(12), 12);
    }

    static void p04_anEmptyTextEndsTooEarly(Check check) {
        gardensAre(check, "", -1);
    }

    static void p04_rowsTooFewOrTooMany(Check check) {
        gardensAre(check, "02", -1);
        gardensAre(check, "12..", -1);
        gardensAre(check, "72" + ".".repeat(14), -1);
        gardensAre(check, "92", -1);
        gardensAre(check, "x", -1);
        gardensAre(check, ".2", -1);
    }

    static void p04_columnsTooFewOrTooMany(Check check) {
        gardensAre(check, "20", -2);
        gardensAre(check, "21..", -2);
        gardensAre(check, "27" + ".".repeat(14), -2);
        gardensAre(check, "2:", -2);
        gardensAre(check, "2.", -2);
    }

    static void p04_aTextThatEndsTooEarlyIsToldAtItsEnd(Check check) {
        gardensAre(check, "2", -2);
        gardensAre(check, "22", -3);
        gardensAre(check, "22.", -4);
        gardensAre(check, "22...", -6);
        gardensAre(check, "66" + ".".repeat(35), -38);
    }

    static void p04_oneTooManyIsToldAtIt(Check check) {
        gardensAre(check, "22.....", -7);
        gardensAre(check, "22....x", -7);
        gardensAre(check, "22......", -7);
        gardensAre(check, "66" + ".".repeat(37), -39);
        gardensAre(check, "66" + ".".repeat(78), -39);
    }

    static void p04_signsBesideThoseOfFieldsCantStand(Check check) {
        for (char sign : "-/\"$4569:`gz@AF \u0000;".toCharArray()) {
            gardensAre(check, "22.." + sign + ".", -5);
        }
    }

    static void p04_eachSignOfAFieldCanStand(Check check) {
        for (char sign : ".#abcdef0123".toCharArray()) {
            gardensAre(check, "22" + sign + "..." , 4);
            gardensAre(check, "22..." + sign , 4);
        }
    }

    static void p04_theFirstSignThatCantStandIsTold(Check check) {
        gardensAre(check, "22.x.x", -4);
        gardensAre(check, "99", -1);
        gardensAre(check, "2x.", -2);
        gardensAre(check, "22x", -3);
    }

    private static PramGardens wentOn() {
        PramGardens g = garden("23a.....", "000;011", "9-d");
        g.faces(1, 3);
        g.looses(0);
        g.minutes(3);
        g.looses(1);
        g.saw(1, 1, 1);
        g.heard(0, 0);
        g.keep(0);
        g.keep(2);
        return g;
    }

    static void p04_thereAreNoPramsThen(Check check) {
        PramGardens g = wentOn();
        check.is("gardens()", write(g, "22....").gardens(), 4);
        check.is("PRAMS", g.count(2), 0);
        check.throwsNone("pram(0, 0)", () -> g.pram(0, 0));
        check.is("LOOSE", g.count(6), 0);
        check.is("VIEWS", g.count(7), 0);
        check.is("room for four", write(g, "000;000;000;000").prams(), 4);
        check.is("VIEWS of the new ones", g.count(7), 0);
        check.is("LOOSE of the new ones", g.count(6), 0);
    }

    static void p04_theMinuteIsZeroThen(Check check) {
        PramGardens g = wentOn();
        check.is("MINUTE ahead of it", g.count(5), 3);
        write(g, "22....").gardens();
        check.is("MINUTE", g.count(5), 0);
    }

    static void p04_nothingCanBeUndoneThen(Check check) {
        PramGardens g = wentOn();
        check.is("what could be ahead of it", g.count(10), 4);
        write(g, "22....").gardens();
        check.is("count(10)", g.count(10), 0);
        check.is("undo()", g.undo(), -1);
    }

    static void p04_nothingIsKeptThen(Check check) {
        PramGardens g = wentOn();
        write(g, "23a.....").gardens();
        for (int i = 0; i < 3; i++) {
            check.is("again(" + i + ")", g.again(i), false);
        }
    }

    static void p04_likeGardensAreAnewToo(Check check) {
        PramGardens g = wentOn();
        check.is("gardens()", write(g, "23a.....").gardens(), 6);
        check.is("PRAMS", g.count(2), 0);
        check.is("MINUTE", g.count(5), 0);
        check.is("count(10)", g.count(10), 0);
    }

    static void p04_whatWasSeenAndHeardAndTheRowStay(Check check) {
        PramGardens g = wentOn();
        write(g, "22....").gardens();
        check.is("what was seen", g.count(8), 1);
        check.is("what was heard", g.count(9), 1);
        check.row("minutes(3)", g, 0, 0);
    }

    static void p04_theRuleStays(Check check) {
        PramGardens g = wentOn();
        write(g, "26.....a......").gardens();
        write(g, "001").prams();
        check.is("sees(0) by 9-d", g.sees(0), 1);
    }

    static void p04_refusedOnesChangeNothing(Check check) {
        PramGardens g = wentOn();
        check.refusedText("gardens()", g, "22...", -6, g::gardens);
        check.refusedText("gardens()", g, "33" + ".".repeat(8) + "x", -11, g::gardens);
        check.is("field(0)", g.field(0), 10);
        check.is("what can be undone", g.undo(), 3);
        check.is("what is kept", g.again(2), true);
    }

    // ---- promise 5: prams

    private static void pramsAre(Check check, String text, int due) {
        // # . .
        // . a 1
        PramGardens g = write(garden("23#...a1", ""), text);
        check.is("prams() of '" + text + "'", g.prams(), due);
        check.is("count(2) behind '" + text + "'", g.count(2), Math.max(0, due));
        check.is("count(12) behind '" + text + "'", g.count(12), 0);
    }

    static void p05_anEmptyTextIsNothing(Check check) {
        pramsAre(check, "", 0);
    }

    static void p05_anEmptyTextIsNothingEvenWithoutRoom(Check check) {
        check.is("prams()", write(garden("22....", "000;000;000;000"), "").prams(), 0);
    }

    static void p05_oneToFourLines(Check check) {
        pramsAre(check, "012", 1);
        pramsAre(check, "012;103", 2);
        pramsAre(check, "012;103;120", 3);
        pramsAre(check, "012;103;120;111", 4);
    }

    static void p05_linesComeBehindThoseThatAreThere(Check check) {
        PramGardens g = garden("23#...a1", "012");
        g.sheet(0, 1, 9, 0);
        g.looses(0);
        g.minutes(0);
        check.is("prams()", write(g, "121;103").prams(), 2);
        int[][] due = {{1, 2, 9, 1}, {5, 1, 0, 0}, {3, 3, 0, 0}};
        check.prams(g, due);
    }

    static void p05_severalCanBeOnOneField(Check check) {
        pramsAre(check, "010;010;011", 3);
    }

    static void p05_aTextThatEndsTooEarlyIsToldAtItsEnd(Check check) {
        pramsAre(check, "0", -2);
        pramsAre(check, "01", -3);
        pramsAre(check, "012;", -5);
        pramsAre(check, "012;0", -6);
        pramsAre(check, "012;01", -7);
        pramsAre(check, "012;012;012;01", -15);
    }

    static void p05_theFirstAndLastRowAndColumnAreThere(Check check) {
        pramsAre(check, "020", 1);
        pramsAre(check, "100", 1);
        pramsAre(check, "120", 1);
        PramGardens large = garden("66" + ".".repeat(36), "");
        check.is("prams()", write(large, "003;551;052;500").prams(), 4);
        check.is("FIELD of 1", large.pram(1, 0), 35);
    }

    static void p05_aRowThatIsNotThereIsToldAtItsDigit(Check check) {
        pramsAre(check, "200", -1);
        pramsAre(check, "900", -1);
        pramsAre(check, "012;200", -5);
    }

    static void p05_aColumnThatIsNotThereIsToldAtItsDigit(Check check) {
        pramsAre(check, "030", -2);
        pramsAre(check, "190", -2);
        pramsAre(check, "012;130", -6);
    }

    static void p05_aWallIsToldAtTheDigitOfItsColumn(Check check) {
        pramsAre(check, "000", -2);
        pramsAre(check, "00", -2);
        pramsAre(check, "009", -2);
        pramsAre(check, "012;000", -6);
    }

    static void p05_aWayThatIsNoneIsToldAtItsDigit(Check check) {
        pramsAre(check, "014", -3);
        pramsAre(check, "01x", -3);
        pramsAre(check, "01;", -3);
        pramsAre(check, "012;019", -7);
        pramsAre(check, "013", 1);
    }

    static void p05_noDigitAtAll(Check check) {
        pramsAre(check, "x", -1);
        pramsAre(check, ";", -1);
        pramsAre(check, ":00", -1);
        pramsAre(check, "/00", -1);
        pramsAre(check, "0x", -2);
        pramsAre(check, "0/1", -2);
        pramsAre(check, "01/", -3);
    }

    static void p05_betweenLinesThereIsASemicolonAlone(Check check) {
        pramsAre(check, "0120", -4);
        pramsAre(check, "012,", -4);
        pramsAre(check, "012:", -4);
        pramsAre(check, "012;;", -5);
        pramsAre(check, "012 ;", -4);
    }

    static void p05_aLineWithoutRoomIsToldAtItsFirstSign(Check check) {
        PramGardens four = garden("22....", "000;000;000;000");
        check.refusedText("prams()", four, "000", -1, four::prams);
        check.refusedText("prams()", four, "x", -1, four::prams);
        PramGardens two = garden("22....", "000;000");
        check.refusedText("prams()", two, "000;000;000", -9, two::prams);
        check.refusedText("prams()", two, "000;000;x", -9, two::prams);
        check.refusedText("prams()", two, "000;000;", -9, two::prams);
        check.is("there is room for two", write(two, "000;001").prams(), 2);
    }

    static void p05_moreThan15SignsAreToldAt15(Check check) {
        String four = "012;103;120;111";
        pramsAre(check, four + ";", -16);
        pramsAre(check, four + ";012", -16);
        pramsAre(check, four + "x", -16);
        pramsAre(check, four + "0".repeat(65), -16);
    }

    static void p05_moreThan15SignsButOneAheadCantStand(Check check) {
        pramsAre(check, "012;103;120;114;", -15);
        pramsAre(check, "012;103;120;131;", -14);
        pramsAre(check, "x".repeat(16), -1);
        PramGardens one = garden("22....", "000");
        check.is("no room ahead of it", write(one, "000;000;000;000;000").prams(), -13);
    }

    static void p05_nothingComesIfALineCant(Check check) {
        PramGardens g = garden("23#...a1", "012");
        g.minutes(1);
        check.refusedText("prams()", g, "012;012;000", -10, g::prams);
        check.refusedText("prams()", g, "012;x", -5, g::prams);
        check.is("what can be undone", g.undo(), 0);
    }

    // ---- promise 6: rule

    private static void ruleIs(Check check, String text, int due) {
        PramGardens g = write(new PramGardens(), text);
        check.is("rule() of '" + text + "'", g.rule(), due);
        check.is("count(12) behind '" + text + "'", g.count(12), 0);
    }

    static void p06_anEmptyTextIsNone(Check check) {
        PramGardens g = garden("26.....a......", "001", "9-d");
        check.is("by 9-d", g.sees(0), 1);
        check.is("rule()", write(g, "").rule(), 0);
        check.is("by none, 5 FIELDS off", g.sees(0), 0);
        check.is("by none, 3 FIELDS off", g.would(0, 2, 1), 1);
    }

    static void p06_aTextThatEndsTooEarlyIsToldAtItsEnd(Check check) {
        ruleIs(check, "-", -2);
        ruleIs(check, "(", -2);
        ruleIs(check, "1+", -3);
        ruleIs(check, "d*", -3);
        ruleIs(check, "1<", -3);
        ruleIs(check, "(1", -3);
        ruleIs(check, "((1)", -5);
        ruleIs(check, "(1+(2", -6);
    }

    static void p06_oneSignIsEnough(Check check) {
        for (char sign : "0123456789dsvhkin".toCharArray()) {
            ruleIs(check, "" + sign, 0);
        }
    }

    static void p06_fortySignsCanStand(Check check) {
        ruleIs(check, "-".repeat(39) + "d", 0);
        ruleIs(check, "1+".repeat(19) + "12", 0);
        ruleIs(check, "-".repeat(37) + "100", 0);
        ruleIs(check, "-".repeat(31) + "((((d))))", 0);
    }

    static void p06_fortySignsAreReckonedWhole(Check check) {
        PramGardens g = garden("22.a..", "001");
        check.is("39 times - ahead of d", withRule(g, "-".repeat(39) + "d").sees(0), 0);
        check.is("1 less 37 times - ahead of 2", withRule(g, "1-" + "-".repeat(37) + "2").sees(0), 1);
        check.is("19 times less 1 from 19", withRule(g, "19" + "-1".repeat(19)).sees(0), 0);
        check.is("19 times less 1 from 20", withRule(g, "20" + "-1".repeat(19)).sees(0), 1);
    }

    static void p06_fortySignsThatEndTooEarly(Check check) {
        ruleIs(check, "-".repeat(40), -41);
        ruleIs(check, "-".repeat(38) + "d+", -41);
        ruleIs(check, "-".repeat(38) + "(d", -41);
    }

    static void p06_moreThanFortySignsAreToldAtForty(Check check) {
        ruleIs(check, "-".repeat(40) + "d", -41);
        ruleIs(check, "-".repeat(39) + "d+1", -41);
        ruleIs(check, "-".repeat(39) + "dx", -41);
        ruleIs(check, "-".repeat(38) + "d<1", -41);
        ruleIs(check, "-".repeat(38) + "(d)", -41);
        ruleIs(check, "-".repeat(38) + "111", -41);
        ruleIs(check, "1+".repeat(40), -41);
    }

    static void p06_moreThanFortySignsButOneAheadCantStand(Check check) {
        ruleIs(check, "-".repeat(39) + "x" + "d", -40);
        ruleIs(check, "-".repeat(30) + "x" + "-".repeat(30), -31);
        ruleIs(check, "-".repeat(36) + "1000d", -40);
        ruleIs(check, "x".repeat(80), -1);
    }

    static void p06_aNumberHasAtMostThreeDigits(Check check) {
        ruleIs(check, "999", 0);
        ruleIs(check, "1000", -4);
        ruleIs(check, "0000", -4);
        ruleIs(check, "1+0001", -6);
        ruleIs(check, "123+456*789", 0);
    }

    static void p06_fourBracketsInOneAnother(Check check) {
        ruleIs(check, "((((1))))", 0);
        ruleIs(check, "(((((1)))))", -5);
        ruleIs(check, "((((1+(", -7);
        ruleIs(check, "-(-(-(-(-(", -10);
        ruleIs(check, "1+(2+(3+(4+(5+(", -15);
    }

    static void p06_bracketsThatAreClosedMakeRoom(Check check) {
        ruleIs(check, "((((1))))+((((1))))", 0);
        ruleIs(check, "(1)+(1)+(1)+(1)+(1)+(1)", 0);
        ruleIs(check, "(((1)+(((", -9);
        ruleIs(check, "(((1)+((1)))))", -14);
    }

    static void p06_bracketsCloseAsManyAsAreOpen(Check check) {
        ruleIs(check, ")", -1);
        ruleIs(check, "1)", -2);
        ruleIs(check, "(1))", -4);
        ruleIs(check, "()", -2);
        ruleIs(check, "(1+)", -4);
        ruleIs(check, "(-)", -3);
    }

    static void p06_comparisonsNotOneBehindTheOther(Check check) {
        for (String first : new String[] {"<", ">", "="}) {
            for (String second : new String[] {"<", ">", "="}) {
                ruleIs(check, "1" + first + "2" + second + "3", -4);
                ruleIs(check, "(1" + first + "2" + second, -5);
                ruleIs(check, "1" + first + "2+3*4" + second, -8);
            }
        }
    }

    static void p06_comparisonsInBracketsStandByThemselves(Check check) {
        ruleIs(check, "(1<2)<3", 0);
        ruleIs(check, "1<(2<3)", 0);
        ruleIs(check, "(1<2)=(3>4)", 0);
        ruleIs(check, "(1<2)<(3<4)<5", -12);
        ruleIs(check, "1<(2)<3", -6);
        ruleIs(check, "(1<(2<3)<4)", -9);
        ruleIs(check, "(1<2)+(1<2)+(1<2)", 0);
    }

    static void p06_twoThingsNeedASignBetween(Check check) {
        ruleIs(check, "dd", -2);
        ruleIs(check, "1d", -2);
        ruleIs(check, "d1", -2);
        ruleIs(check, "1(", -2);
        ruleIs(check, "d(", -2);
        ruleIs(check, "(1)(1)", -4);
        ruleIs(check, "(1)1", -4);
        ruleIs(check, "(1)d", -4);
    }

    static void p06_signsNeedAThingAhead(Check check) {
        for (char sign : "+*/<>=".toCharArray()) {
            ruleIs(check, sign + "1", -1);
            ruleIs(check, "1+" + sign + "1", -3);
            ruleIs(check, "-" + sign + "1", -2);
            ruleIs(check, "(" + sign + "1)", -2);
        }
    }

    static void p06_minusCanStandAheadOfEachThing(Check check) {
        ruleIs(check, "-1", 0);
        ruleIs(check, "1+-1", 0);
        ruleIs(check, "1*-1", 0);
        ruleIs(check, "1<-1", 0);
        ruleIs(check, "1--1", 0);
        ruleIs(check, "(-1)", 0);
        ruleIs(check, "-(1)", 0);
        ruleIs(check, "---d", 0);
    }

    static void p06_otherSignsCantStand(Check check) {
        for (char sign = 0; sign < 256; sign++) {
            if ("0123456789dsvhkin-(".indexOf(sign) < 0) {
                ruleIs(check, "" + sign, -1);
            }
            if ("0123456789-+*/<>=".indexOf(sign) < 0) {
                ruleIs(check, "1" + sign, -2);
            }
        }
    }

    static void p06_aRefusedOneLeavesTheRule(Check check) {
        PramGardens g = garden("26.....a......", "001", "9-d");
        for (String text : new String[] {"0x", "0+", "x", "1<0<1", "-".repeat(41)}) {
            write(g, text).rule();
            check.is("sees(0) behind " + text, g.sees(0), 1);
        }
    }

    static void p06_aRefusedOneDoesNotWeighOnTheNext(Check check) {
        for (String text : new String[] {"-x", "0*x", "((((x", "1<x", "(0-x", "1<2<", "-".repeat(41)}) {
            PramGardens g = garden("22.a..", "001", "0");
            write(g, text).rule();
            check.is("rule() behind " + text, write(g, "((((1))))").rule(), 0);
            check.is("sees(0)", g.sees(0), 1);
            write(g, text).rule();
            check.is("rule() behind " + text, write(g, "1<2").rule(), 0);
            check.is("sees(0)", g.sees(0), 1);
            write(g, text).rule();
            check.is("rule() of none behind " + text, write(g, "").rule(), 0);
            check.is("sees(0)", g.sees(0), 1);
        }
    }

    static void p06_itTakesThePlaceOfTheOneAhead(Check check) {
        PramGardens g = garden("22.a..", "001", "((1+2)*3-4)/5=1");
        check.is("by the first", g.sees(0), 1);
        check.is("by a shorter one", withRule(g, "0").sees(0), 0);
        check.is("by a longer one", withRule(g, "0+0+0+0+0+1").sees(0), 1);
    }

    static void p06_itChangesNothingElse(Check check) {
        PramGardens g = garden("22.a..", "001");
        g.minutes(1);
        g.keep(0);
        write(g, "1").rule();
        check.is("what can be undone", g.undo(), 0);
        check.is("what is kept", g.again(0), true);
        check.row("minutes(1)", g, 0, 0);
        check.is("VIEWS", g.count(7), 0);
    }

    // ---- promise 7: field

    static void p07_kindsOfFields(Check check) {
        PramGardens g = garden("34.#abcdef0123", "");
        int[] due = {0, 1, 10, 11, 12, 13, 14, 15, 20, 21, 22, 23};
        for (int field = 0; field < 12; field++) {
            check.is("field(" + field + ")", g.field(field), due[field]);
        }
    }

    static void p07_noneSuchThrows(Check check) {
        PramGardens g = garden("23#...a1", "");
        check.is("the last", g.field(5), 21);
        for (int field : new int[] {-1, 6, 36, Integer.MAX_VALUE, Integer.MIN_VALUE}) {
            check.throwsNone("field(" + field + ")", () -> g.field(field));
        }
    }

    static void p07_thirtySixFieldsAtMost(Check check) {
        PramGardens g = garden("66" + ".".repeat(35) + "f", "");
        check.is("field(35)", g.field(35), 15);
        check.throwsNone("field(36)", () -> g.field(36));
    }

    static void p07_fieldsOfLargerGardensAreGone(Check check) {
        PramGardens g = garden("66" + "a".repeat(36), "");
        write(g, "22....").gardens();
        check.is("field(3)", g.field(3), 0);
        check.throwsNone("field(4)", () -> g.field(4));
    }

    // ---- promise 8: pram

    static void p08_whatIsToldOfAPram(Check check) {
        PramGardens g = garden("23#...a1", "012;121");
        g.sheet(0, 2, 5, 7);
        g.looses(1);
        int[][] due = {{1, 2, 5, 0, 4}, {5, 1, 12, 1, -1}};
        check.prams(g, due);
    }

    static void p08_nothingIsAheadAtEachEdge(Check check) {
        PramGardens g = garden("22....", "000;011;112;103");
        for (int pram = 0; pram < 4; pram++) {
            check.is("ahead of " + pram, g.pram(pram, 4), -1);
        }
    }

    static void p08_nothingIsAheadAtTheEndOfARow(Check check) {
        PramGardens g = garden("23......", "021;103");
        check.is("to the right of FIELD 2", g.pram(0, 4), -1);
        check.is("to the left of FIELD 3", g.pram(1, 4), -1);
    }

    static void p08_nothingIsAheadAtAWall(Check check) {
        PramGardens g = garden("33.#.#.#.#.", "110;111;112;113");
        for (int pram = 0; pram < 4; pram++) {
            check.is("ahead of " + pram, g.pram(pram, 4), -1);
        }
    }

    static void p08_noneSuchThrows(Check check) {
        PramGardens g = garden("22....", "000;000");
        for (int pram : new int[] {-1, 2, 4, Integer.MAX_VALUE, Integer.MIN_VALUE}) {
            check.throwsNone("pram(" + pram + ", 0)", () -> g.pram(pram, 0));
        }
    }

    static void p08_anotherWhatThrows(Check check) {
        PramGardens g = garden("22....", "000;000");
        for (int what : new int[] {-1, 5, Integer.MAX_VALUE, Integer.MIN_VALUE}) {
            check.throwsNone("pram(0, " + what + ")", () -> g.pram(0, what));
        }
    }

    static void p08_theFourthIsTheLast(Check check) {
        PramGardens g = garden("22....", "000;000;000;113");
        check.is("pram(3, 0)", g.pram(3, 0), 3);
        check.throwsNone("pram(4, 0)", () -> g.pram(4, 0));
    }

    // ---- promise 9: sheet

    private static void views(Check check, PramGardens g, int... due) {
        for (int pram = 0; pram < due.length; pram++) {
            check.is("VIEWS of " + pram, g.pram(pram, 2), due[pram]);
        }
    }

    static void p09_eachKindTellsItsEntries(Check check) {
        for (int kind = 0; kind <= 2; kind++) {
            PramGardens g = garden("22....", "000;000;000;000");
            check.is("sheet(" + kind + ", 4, 1, 20)", g.sheet(kind, 4, 1, 20), 124);
            views(check, g, 1, 21, 41, 61);
        }
    }

    static void p09_theLowestSixBitsAlone(Check check) {
        for (int kind = 0; kind <= 2; kind++) {
            PramGardens g = garden("22....", "000;000;000;000");
            check.is("of kind " + kind, g.sheet(kind, 4, 63, 1), 63 + 0 + 1 + 2);
            views(check, g, 63, 0, 1, 2);
        }
    }

    static void p09_entriesBelowZero(Check check) {
        for (int kind = 0; kind <= 2; kind++) {
            PramGardens g = garden("22....", "000;000;000");
            check.is("of kind " + kind, g.sheet(kind, 3, -1, -1), 63 + 62 + 61);
            views(check, g, 63, 62, 61);
        }
    }

    static void p09_bytesBeyondTheirRange(Check check) {
        PramGardens g = garden("22....", "000;000;000");
        check.is("127, 128, 129", g.sheet(0, 3, 127, 1), 63 + 0 + 1);
        views(check, g, 63, 0, 1);
        check.is("200, 255, 310", g.sheet(0, 3, 200, 55), 8 + 63 + 54);
        check.is("-128, -129, -130", g.sheet(0, 3, -128, -1), 0 + 63 + 62);
    }

    static void p09_shortsBeyondTheirRange(Check check) {
        PramGardens g = garden("22....", "000;000;000");
        check.is("32767, 32768, 32769", g.sheet(1, 3, 32767, 1), 63 + 0 + 1);
        views(check, g, 63, 0, 1);
        check.is("65535, 65537, 65539", g.sheet(1, 3, 65535, 2), 63 + 1 + 3);
    }

    static void p09_intsWrapAround(Check check) {
        PramGardens g = garden("22....", "000;000;000");
        check.is("max, min, min + 1", g.sheet(2, 3, Integer.MAX_VALUE, 1), 63 + 0 + 1);
        views(check, g, 63, 0, 1);
        check.is("0, max, -2", g.sheet(2, 3, 0, Integer.MAX_VALUE), 0 + 63 + 62);
    }

    static void p09_noEntriesAtAll(Check check) {
        PramGardens g = garden("22....", "000;000");
        g.sheet(0, 2, 9, 9);
        check.is("sheet(0, 0, 9, 9)", g.sheet(0, 0, 9, 9), 0);
        views(check, g, 0, 0);
    }

    static void p09_thoseBehindItHaveNone(Check check) {
        for (int n = 0; n <= 4; n++) {
            PramGardens g = garden("22....", "000;000;000;000");
            g.sheet(0, 4, 63, 0);
            check.is("n " + n, g.sheet(2, n, 5, 0), 5 * n);
            for (int pram = 0; pram < 4; pram++) {
                check.is("VIEWS of " + pram, g.pram(pram, 2), pram < n ? 5 : 0);
            }
        }
    }

    static void p09_moreEntriesThanPrams(Check check) {
        PramGardens g = garden("22....", "000");
        check.is("the sum of all VIEWS", g.sheet(0, 4, 7, 1), 7);
        views(check, g, 7);
        write(g, "000").prams();
        check.is("one that comes has none", g.pram(1, 2), 0);
    }

    static void p09_withoutPrams(Check check) {
        PramGardens g = new PramGardens();
        check.is("of bytes", g.sheet(0, 0, 1, 1), 0);
        check.is("missing", g.sheet(3, 0, 1, 1), -3);
        check.is("n below 0", g.sheet(2, -1, 1, 1), -2);
    }

    static void p09_aMissingOne(Check check) {
        PramGardens g = garden("22....", "000;000");
        g.sheet(0, 2, 9, 9);
        check.is("sheet(3, 2, 9, 9)", g.sheet(3, 2, 9, 9), -3);
        views(check, g, 0, 0);
    }

    static void p09_aMissingOneWithNBelowZero(Check check) {
        PramGardens g = garden("22....", "000;000");
        g.sheet(0, 2, 9, 9);
        check.is("sheet(3, -1, 9, 9)", g.sheet(3, -1, 9, 9), -3);
        views(check, g, 0, 0);
    }

    static void p09_nBelowZeroChangesNothing(Check check) {
        PramGardens g = garden("22....", "000;000");
        g.sheet(0, 2, 9, 9);
        for (int kind = 0; kind <= 2; kind++) {
            int one = kind;
            check.refused("n -1 of kind " + kind, g, -2, () -> g.sheet(one, -1, 1, 1));
            check.refused("n min of kind " + kind, g, -2, () -> g.sheet(one, Integer.MIN_VALUE, 1, 1));
        }
    }

    static void p09_nAboveFourIsNone(Check check) {
        PramGardens g = garden("22....", "000;000");
        g.sheet(0, 2, 9, 9);
        for (int kind = 0; kind <= 3; kind++) {
            int one = kind;
            check.refused("n 5 of kind " + kind, g, -1, () -> g.sheet(one, 5, 1, 1));
        }
        check.refused("n max", g, -1, () -> g.sheet(0, Integer.MAX_VALUE, 1, 1));
        check.is("n 4", g.sheet(0, 4, 1, 1), 3);
    }

    static void p09_anotherKindIsNoneFirst(Check check) {
        PramGardens g = garden("22....", "000;000");
        g.sheet(0, 2, 9, 9);
        check.refused("kind -1", g, -1, () -> g.sheet(-1, 1, 1, 1));
        check.refused("kind 4", g, -1, () -> g.sheet(4, 1, 1, 1));
        check.refused("kind 4, n below 0", g, -1, () -> g.sheet(4, -1, 1, 1));
        check.refused("kind max, n above 4", g, -1, () -> g.sheet(Integer.MAX_VALUE, 9, 1, 1));
    }

    static void p09_itCantBeUndone(Check check) {
        PramGardens g = garden("22....", "000;000");
        g.sheet(0, 2, 9, 9);
        check.is("count(10)", g.count(10), 0);
        check.is("undo()", g.undo(), -1);
        views(check, g, 9, 18);
        g.sheet(3, 0, 0, 0);
        check.is("undo() of a missing one", g.undo(), -1);
    }

    static void p09_whatWasDoneAheadCanStillBeUndone(Check check) {
        PramGardens g = garden("22....", "000;000");
        g.minutes(2);
        g.sheet(0, 2, 9, 9);
        check.is("undo() of minutes()", g.undo(), 0);
        views(check, g, 0, 0);
    }

    static void p09_otherThingsOfPramsStay(Check check) {
        PramGardens g = garden("22....", "113");
        g.looses(0);
        g.minutes(0);
        g.sheet(0, 1, 9, 9);
        check.is("FIELD", g.pram(0, 0), 3);
        check.is("WAY", g.pram(0, 1), 3);
        check.is("LOOSE", g.pram(0, 3), 1);
        check.row("minutes(0)", g, 0, 0);
    }
}
