/** Promises 33 to 40: laws of views that fit what was seen, and which pram it was. */
public final class LawsTest {
    private static final Check check = new Check("LawsTest");

    public static void main(String[] args) {
        saw();
        denied();
        laws();
        looked();
        heard();
        fitting();
        asked();
        check.finish();
    }

    private static void saw() {
        check.promise(33, "saw");
        PramGardens g = new PramGardens();
        int[][] wrong = {{0, 0, 0}, {6, 0, 0}, {1, -1, 0}, {1, 7, 0}, {1, 0, -1}, {1, 0, 2}, {Integer.MIN_VALUE, 0, 0}};
        for (int[] one : wrong) {
            check.is("saw() of others", g.saw(one[0], one[1], one[2]), -1);
        }
        for (int i = 1; i <= 10; i++) {
            check.is("saw(1, 0, 1)", g.saw(1 + i % 5, i % 7, i % 2), i);
        }
        check.is("saw() of an 11th", g.saw(1, 0, 1), -1);
        check.is("count(8)", g.count(8), 10);
    }

    private static void denied() {
        check.promise(34, "denies");
        PramGardens g = new PramGardens();
        check.is("of none", g.denies(), 0);
        g.saw(1, 0, 0);
        g.saw(1, 0, 0);
        check.is("laws() ahead of it", g.laws(), 0);
        check.is("of two", g.denies(), 2);
        check.is("count(8)", g.count(8), 0);
        check.is("laws() behind it", g.laws(), 35);
        check.is("of none", g.denies(), 0);
        g.heard(0, 0);
        g.denies();
        check.is("what was heard stays", g.count(9), 1);
    }

    private static void laws() {
        check.promise(35, "laws");
        PramGardens g = new PramGardens();
        check.is("all", g.laws(), 35);
        check.row("all", g, 1, 0);
        g.saw(3, 2, 1);
        check.is("formed 3 off, by 2", g.laws(), 15);
        check.row("formed 3 off, by 2", g, 3, 2);
        g.saw(5, 0, 0);
        check.is("not 5 off", g.laws(), 10);
        check.row("not 5 off", g, 3, 2);
        g.saw(3, 4, 0);
        check.is("not by 4", g.laws(), 4);
        g.saw(4, 3, 0);
        check.is("not 4 off by 3", g.laws(), 3);
        check.row("not 4 off by 3", g, 3, 2);
        g.saw(3, 3, 1);
        check.is("one left", g.laws(), 1);
        check.row("one left", g, 3, 3);
        g.saw(1, 0, 0);
        check.is("none left", g.laws(), 0);
        check.row("none left", g);
    }

    private static void looked() {
        check.promise(36, "looks");
        PramGardens g = new PramGardens();
        check.is("of all", g.looks(), 31);
        check.row("of all", g, 18);
        g.saw(3, 2, 1);
        g.saw(5, 0, 0);
        check.is("a 3 or 4, b 2 to 6", g.looks(), 40);
        check.row("a 3 or 4, b 2 to 6", g, 5);
        check.is("it is not seen by that", g.count(8), 2);
        g.saw(4, 0, 0);
        check.is("a 3, b 2 to 6", g.looks(), 14);
        check.row("a 3, b 2 to 6", g, 3);
        g.saw(1, 3, 0);
        check.is("one law left", g.looks(), 10);
        check.row("one law left", g, 1);
        g.saw(1, 0, 0);
        check.is("none fits", g.looks(), -2);
        check.row("the ROW stays", g, 1);
        g.denies();
        g.saw(4, 5, 1);
        check.is("a 4 or 5, b 5 or 6", g.looks(), 16);
        check.row("a 4 or 5, b 5 or 6", g, 2);
        g.saw(1, 6, 0);
        check.is("a 4 or 5, b 5", g.looks(), 50);
        check.row("a 4 or 5, b 5", g, 1);
    }

    private static void heard() {
        check.promise(37, "heard");
        PramGardens g = new PramGardens();
        int[][] wrong = {{-1, 0}, {5, 0}, {0, 6}, {0, -1}, {1, 6}, {2, 4}, {3, 6}, {4, 2}, {4, -1}, {Integer.MAX_VALUE, 0}};
        for (int[] one : wrong) {
            check.is("heard() of others", g.heard(one[0], one[1]), -1);
        }
        int[][] right = {{0, 0}, {0, 5}, {1, 0}, {1, 5}, {2, 0}, {2, 3}, {3, 0}, {3, 5}, {4, 0}, {4, 1}, {4, 1}, {0, 0}};
        for (int i = 0; i < 12; i++) {
            check.is("heard()", g.heard(right[i][0], right[i][1]), i + 1);
        }
        check.is("a 13th", g.heard(0, 0), -1);
        check.is("count(9)", g.count(9), 12);
        check.promise(38, "forget");
        check.is("forget()", g.forget(), 12);
        check.is("forget() of none", g.forget(), 0);
        check.is("count(9)", g.count(9), 0);
        g.saw(1, 1, 1);
        g.forget();
        check.is("what was seen stays", g.count(8), 1);
    }

    private static void fitting() {
        check.promise(39, "fits");
        PramGardens g = Check.garden("33.........", "000;011;102;113");
        g.looses(3);
        g.sheet(0, 2, 4, 2);
        check.is("all", g.fits(), 15);
        check.row("all", g, 4);
        int[][] due = {{0, 0, 3}, {0, 1, 12}, {0, 5, 0}, {1, 0, 5}, {1, 1, 10}, {2, 0, 1}, {2, 3, 8}, {3, 2, 3}, {3, 1, 2}, {3, 5, 0}
            , {4, 1, 8}, {4, 0, 7}};
        for (int[] one : due) {
            g.heard(one[0], one[1]);
            check.is("fits() of what " + one[0] + ", " + one[1], g.fits(), one[2]);
            check.row("fits()", g, Integer.bitCount(one[2]));
            g.forget();
        }
        g.heard(0, 1);
        g.heard(4, 0);
        check.is("of both", g.fits(), 4);
        g.heard(4, 1);
        check.is("of what can't be", g.fits(), 0);
        check.row("of what can't be", g, 0);
        check.is("without PRAMS", new PramGardens().fits(), 0);
    }

    private static void asked() {
        check.promise(40, "asks");
        PramGardens g = Check.garden("33.........", "000;011;102;113");
        check.is("of four", g.asks(), 0);
        check.row("of four", g, 2);
        g.heard(0, 0);
        check.is("of two", g.asks(), 10);
        check.row("of two", g, 1);
        check.is("it is not heard by that", g.count(9), 1);
        g.heard(1, 0);
        check.is("of one", g.asks(), 0);
        check.row("of one", g, 1);
        g.heard(1, 1);
        check.is("none fits", g.asks(), -2);
        check.row("the ROW stays", g, 1);
        PramGardens like = Check.garden("22....", "000;000;000");
        check.is("all alike", like.asks(), 0);
        check.row("all alike", like, 3);
        like.looses(1);
        check.is("by LOOSE", like.asks(), 40);
        check.row("by LOOSE", like, 2);
        like.sheet(0, 3, 8, 0);
        like.forgets(2, 3);
        check.is("by VIEWS", like.asks(), 33);
        like.catches(1);
        like.faces(2, 1);
        check.is("by WAY", like.asks(), 20);
        PramGardens highest = Check.garden("66" + ".".repeat(36), "010;510");
        check.is("by ROW", highest.asks(), 0);
        PramGardens far = Check.garden("66" + ".".repeat(36), "000;550;550");
        far.heard(0, 5);
        check.is("alike ones far off", far.asks(), 0);
        far.sheet(0, 3, 32, 0);
        far.forgets(1, 5);
        check.is("by the highest SIGHT", far.asks(), 35);
        check.row("by the highest SIGHT", far, 1);
        check.is("without PRAMS", new PramGardens().asks(), -2);
    }
}
