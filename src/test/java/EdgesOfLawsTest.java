/** The edges that promises 33 to 40 name: laws of views, what was seen and heard, what to look at and to ask next. */
public final class EdgesOfLawsTest extends Cases {
    public static void main(String[] args) throws Exception {
        runAll(EdgesOfLawsTest.class);
    }

    // ---- promise 33: saw

    static void p33_theLeastAndTheHighest(Check check) {
        PramGardens g = new PramGardens();
        check.is("saw(1, 0, 0)", g.saw(1, 0, 0), 1);
        check.is("saw(5, 6, 1)", g.saw(5, 6, 1), 2);
        check.is("saw(1, 6, 0)", g.saw(1, 6, 0), 3);
        check.is("saw(5, 0, 1)", g.saw(5, 0, 1), 4);
        check.is("count(8)", g.count(8), 4);
    }

    static void p33_othersAreRefused(Check check) {
        PramGardens g = new PramGardens();
        int[][] others = {{0, 0, 0}, {6, 0, 0}, {-1, 0, 0}, {1, -1, 0}, {1, 7, 0}, {1, 0, -1}, {1, 0, 2}, {Integer.MAX_VALUE, 0, 0}};
        for (int[] one : others) {
            check.refused("saw(" + one[0] + ", " + one[1] + ", " + one[2] + ")", g, -1, () -> g.saw(one[0], one[1], one[2]));
        }
    }

    static void p33_tenAndNoMore(Check check) {
        PramGardens g = new PramGardens();
        for (int i = 1; i <= 10; i++) {
            check.is("saw() " + i, g.saw(5, 6, 1), i);
        }
        check.refused("an 11th", g, -1, () -> g.saw(1, 0, 0));
        check.is("count(8)", g.count(8), 10);
        check.is("it is not seen", g.laws(), 1);
        g.denies();
        check.is("there is room again", g.saw(1, 0, 0), 1);
    }

    static void p33_likeOnesCountEach(Check check) {
        PramGardens g = new PramGardens();
        g.saw(2, 2, 1);
        check.is("saw() of the same", g.saw(2, 2, 1), 2);
        check.is("saw() of its contrary", g.saw(2, 2, 0), 3);
    }

    static void p33_theRowStays(Check check) {
        PramGardens g = new PramGardens();
        g.shoulders(20);
        g.saw(2, 2, 1);
        check.row("shoulders(20)", g, 0, 9);
    }

    // ---- promise 34: denies

    static void p34_howManyThereWere(Check check) {
        PramGardens g = new PramGardens();
        check.is("of none", g.denies(), 0);
        for (int i = 0; i < 10; i++) {
            g.saw(1, 0, 0);
        }
        check.is("of ten", g.denies(), 10);
        check.is("count(8)", g.count(8), 0);
        check.is("of none again", g.denies(), 0);
        check.is("all laws fit", g.laws(), 35);
    }

    static void p34_whatWasHeardStays(Check check) {
        PramGardens g = new PramGardens();
        g.heard(0, 0);
        g.saw(1, 0, 0);
        check.is("denies()", g.denies(), 1);
        check.is("count(9)", g.count(9), 1);
    }

    // ---- promise 35: laws

    static void p35_allThirtyFiveWithoutAnything(Check check) {
        PramGardens g = new PramGardens();
        check.is("laws()", g.laws(), 35);
        check.row("laws()", g, 1, 0);
    }

    static void p35_noneFits(Check check) {
        PramGardens g = new PramGardens();
        g.shoulders(20);
        g.saw(1, 0, 0);
        check.is("laws()", g.laws(), 0);
        check.row("laws()", g);
        PramGardens both = new PramGardens();
        both.saw(3, 3, 1);
        both.saw(3, 3, 0);
        check.is("of a contrary", both.laws(), 0);
    }

    static void p35_formedAtItsOwnBounds(Check check) {
        for (int d = 1; d <= 5; d++) {
            for (int v = 0; v <= 6; v++) {
                PramGardens g = new PramGardens();
                g.saw(d, v, 1);
                check.is("formed " + d + ", " + v, g.laws(), (6 - d) * (7 - v));
                check.row("formed " + d + ", " + v, g, d, v);
                g.denies();
                g.saw(d, v, 0);
                check.is("not formed " + d + ", " + v, g.laws(), 35 - (6 - d) * (7 - v));
            }
        }
    }

    static void p35_theLeastAIsAheadOfTheLeastB(Check check) {
        PramGardens g = new PramGardens();
        // not by 1 off, 4 VIEWS, unless a is less, which it can't be: b is 3 or less; formed by 2 off: a is 2 or more
        g.saw(1, 4, 0);
        g.saw(2, 1, 1);
        check.is("laws()", g.laws(), 12);
        check.row("laws()", g, 2, 1);
        PramGardens other = new PramGardens();
        // a 1 with b 5, 6 as well as a 2 to 5 with b 5, 6: the first a
        other.saw(1, 5, 1);
        check.row("laws()", asked(other), 1, 5);
        // not 2 off by 0 VIEWS: a is 1
        other.saw(2, 0, 0);
        check.is("laws()", other.laws(), 2);
        check.row("laws()", other, 1, 5);
    }

    private static PramGardens asked(PramGardens g) {
        g.laws();
        return g;
    }

    static void p35_oneLeftAtTheEnd(Check check) {
        PramGardens g = new PramGardens();
        g.saw(5, 6, 1);
        check.is("laws()", g.laws(), 1);
        check.row("laws()", g, 5, 6);
        PramGardens first = new PramGardens();
        first.saw(2, 0, 0);
        first.saw(1, 1, 0);
        check.is("laws()", first.laws(), 1);
        check.row("laws()", first, 1, 0);
    }

    // ---- promise 36: looks

    static void p36_ofAllLaws(Check check) {
        PramGardens g = new PramGardens();
        // 3 off by 1 VIEW: 18 of 35 form it
        check.is("looks()", g.looks(), 31);
        check.row("looks()", g, 18);
    }

    static void p36_noneFits(Check check) {
        PramGardens g = new PramGardens();
        g.laws();
        g.saw(1, 0, 0);
        check.refused("looks()", g, -2, g::looks);
    }

    static void p36_oneLawLeft(Check check) {
        PramGardens g = new PramGardens();
        g.saw(5, 6, 1);
        // whatever is looked at, one law is left: the least look
        check.is("looks()", g.looks(), 10);
        check.row("looks()", g, 1);
    }

    static void p36_ofEqualOnesTheLeast(Check check) {
        PramGardens g = new PramGardens();
        // a 4, 5 by b 5, 6: d 5 halves as well as v 6; 16 is the least of those
        g.saw(4, 5, 1);
        check.is("looks()", g.looks(), 16);
        check.row("looks()", g, 2);
    }

    static void p36_theHighestLook(Check check) {
        PramGardens g = new PramGardens();
        // a 4 or 5 by b 6 is told apart by d 5 alone, a 5 by b 5 or 6 by v 6
        g.saw(4, 6, 1);
        check.is("looks()", g.looks(), 50);
        check.row("looks()", g, 1);
        PramGardens high = new PramGardens();
        high.saw(5, 5, 1);
        check.is("looks()", high.looks(), 16);
        check.row("looks()", high, 1);
    }

    static void p36_formedOrNotTheLargerCounts(Check check) {
        PramGardens g = new PramGardens();
        // a 1, b 0 to 6: v 3 or 4 leave 4 or 3: at most 4 both ways; v 3 is the least
        g.saw(2, 0, 0);
        check.is("looks()", g.looks(), 13);
        check.row("looks()", g, 4);
    }

    static void p36_theLeastLawCountsToo(Check check) {
        PramGardens g = new PramGardens();
        // a is 1, b is 0 or 1: by no VIEW both form it
        g.saw(2, 0, 0);
        g.saw(1, 2, 0);
        check.is("looks()", g.looks(), 11);
        check.row("looks()", g, 1);
    }

    static void p36_tenSeenAreNoHindrance(Check check) {
        PramGardens g = new PramGardens();
        for (int i = 0; i < 10; i++) {
            g.saw(5, 6, 1);
        }
        check.is("looks()", g.looks(), 10);
    }

    // ---- promise 37: heard

    static void p37_theLeastAndTheHighest(Check check) {
        int[] highest = {5, 5, 3, 5, 1};
        PramGardens g = new PramGardens();
        for (int what = 0; what < 5; what++) {
            check.is("heard(" + what + ", 0)", g.heard(what, 0), 2 * what + 1);
            check.is("heard(" + what + ", " + highest[what] + ")", g.heard(what, highest[what]), 2 * what + 2);
        }
        check.is("count(9)", g.count(9), 10);
    }

    static void p37_othersAreRefused(Check check) {
        int[] highest = {5, 5, 3, 5, 1};
        PramGardens g = new PramGardens();
        for (int what = 0; what < 5; what++) {
            check.is("heard(" + what + ", -1)", g.heard(what, -1), -1);
            check.is("heard(" + what + ", " + (highest[what] + 1) + ")", g.heard(what, highest[what] + 1), -1);
        }
        check.refused("heard(-1, 0)", g, -1, () -> g.heard(-1, 0));
        check.refused("heard(5, 0)", g, -1, () -> g.heard(5, 0));
        check.refused("heard(max, 0)", g, -1, () -> g.heard(Integer.MAX_VALUE, 0));
        check.refused("heard(0, min)", g, -1, () -> g.heard(0, Integer.MIN_VALUE));
        check.is("count(9)", g.count(9), 0);
    }

    static void p37_twelveAndNoMore(Check check) {
        PramGardens g = garden("22....", "000;010");
        for (int i = 1; i <= 12; i++) {
            check.is("heard() " + i, g.heard(0, 0), i);
        }
        check.refused("a 13th", g, -1, () -> g.heard(1, 0));
        check.is("it is not heard", g.fits(), 3);
        g.forget();
        check.is("there is room again", g.heard(1, 0), 1);
    }

    static void p37_rowsAndColumnsThatAreNotThere(Check check) {
        PramGardens g = garden("22....", "000");
        check.is("ROW 5 of two", g.heard(0, 5), 1);
        check.is("none fits", g.fits(), 0);
    }

    // ---- promise 38: forget

    static void p38_howManyThereWere(Check check) {
        PramGardens g = new PramGardens();
        check.is("of none", g.forget(), 0);
        for (int i = 0; i < 12; i++) {
            g.heard(0, 0);
        }
        check.is("of twelve", g.forget(), 12);
        check.is("count(9)", g.count(9), 0);
        check.is("of none again", g.forget(), 0);
    }

    static void p38_whatWasSeenStays(Check check) {
        PramGardens g = new PramGardens();
        g.heard(0, 0);
        g.saw(1, 0, 0);
        check.is("forget()", g.forget(), 1);
        check.is("count(8)", g.count(8), 1);
    }

    // ---- promise 39: fits

    static void p39_withoutPrams(Check check) {
        PramGardens g = new PramGardens();
        check.is("fits()", g.fits(), 0);
        check.row("fits()", g, 0);
    }

    static void p39_allFitNothingHeard(Check check) {
        PramGardens g = garden("22....", "000;000;000;000");
        check.is("fits()", g.fits(), 15);
        check.row("fits()", g, 4);
    }

    static void p39_eachKindOfWhatIsHeard(Check check) {
        PramGardens g = garden("66" + ".".repeat(36), "050;501;553;003");
        g.sheet(0, 4, 32, 33);
        g.looses(3);
        // VIEWS 32, 1, 34, 3
        int[][] due = {{0, 0, 9}, {0, 5, 6}, {1, 0, 10}, {1, 5, 5}, {2, 0, 1}, {2, 1, 2}, {2, 2, 0}, {2, 3, 12}
            , {3, 0, 10}, {3, 1, 12}, {3, 5, 5}, {4, 0, 7}, {4, 1, 8}};
        for (int[] one : due) {
            g.heard(one[0], one[1]);
            check.is("fits() of " + one[0] + ", " + one[1], g.fits(), one[2]);
            check.row("fits() of " + one[0] + ", " + one[1], g, Integer.bitCount(one[2]));
            g.forget();
        }
    }

    static void p39_allThatWasHeardTogether(Check check) {
        PramGardens g = garden("22....", "000;010;011");
        g.heard(0, 0);
        g.heard(1, 1);
        check.is("fits()", g.fits(), 6);
        g.heard(2, 1);
        check.is("fits()", g.fits(), 4);
        g.heard(2, 0);
        check.is("fits() of a contrary", g.fits(), 0);
        check.row("fits() of a contrary", g, 0);
    }

    static void p39_asPramsAreNow(Check check) {
        PramGardens g = garden("22....", "000");
        g.heard(1, 1);
        check.is("ahead of a push", g.fits(), 0);
        g.pushes(0, 1);
        check.is("behind it", g.fits(), 1);
    }

    // ---- promise 40: asks

    static void p40_withoutPrams(Check check) {
        PramGardens g = new PramGardens();
        g.laws();
        check.refused("asks()", g, -2, g::asks);
    }

    static void p40_noneFits(Check check) {
        PramGardens g = garden("22....", "000");
        g.laws();
        g.heard(0, 1);
        check.refused("asks()", g, -2, g::asks);
    }

    static void p40_oneFits(Check check) {
        PramGardens g = garden("22....", "110");
        check.is("asks()", g.asks(), 0);
        check.row("asks()", g, 1);
    }

    static void p40_allAlike(Check check) {
        PramGardens g = garden("22....", "110;110;110;110");
        check.is("asks()", g.asks(), 0);
        check.row("asks()", g, 4);
    }

    static void p40_ofEqualOnesTheLeast(Check check) {
        PramGardens g = garden("33.........", "110;221");
        // ROW 1 tells as well as ROW 2, COLUMN 1 and WAY 0; ROW 0 does not
        check.is("asks()", g.asks(), 1);
        check.row("asks()", g, 1);
    }

    static void p40_eachKindCanBeTheOnlyOne(Check check) {
        PramGardens rows = garden("66" + ".".repeat(36), "400;500");
        check.is("by ROW", rows.asks(), 4);
        PramGardens columns = garden("66" + ".".repeat(36), "040;050");
        check.is("by COLUMN", columns.asks(), 14);
        PramGardens ways = garden("22....", "002;003");
        check.is("by WAY", ways.asks(), 22);
        PramGardens views = garden("22....", "000;000");
        views.sheet(0, 1, 32, 0);
        check.is("by VIEWS", views.asks(), 35);
        PramGardens loose = garden("22....", "000;000");
        loose.looses(0);
        check.is("by LOOSE", loose.asks(), 40);
        check.row("by LOOSE", loose, 1);
    }

    static void p40_soOrNotTheLargerCounts(Check check) {
        PramGardens g = garden("33.........", "000;001;100;203");
        // ROW 0: two so, two not; others leave three
        check.is("asks()", g.asks(), 0);
        check.row("asks()", g, 2);
        PramGardens three = garden("33.........", "000;000;000;201");
        check.is("asks()", three.asks(), 0);
        check.row("asks()", three, 3);
    }

    static void p40_ofThoseThatFitAlone(Check check) {
        PramGardens g = garden("33.........", "000;001;100;203");
        g.heard(0, 0);
        check.is("asks()", g.asks(), 20);
        check.row("asks()", g, 1);
    }

    static void p40_twelveHeardAreNoHindrance(Check check) {
        PramGardens g = garden("22....", "000");
        for (int i = 0; i < 12; i++) {
            g.heard(0, 0);
        }
        check.is("asks()", g.asks(), 0);
        check.row("asks()", g, 1);
    }
}
