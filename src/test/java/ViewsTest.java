/** Promises 26 to 32: views to be formed, straying by chance, running loose. */
public final class ViewsTest {
    private static final Check check = new Check("ViewsTest");

    public static void main(String[] args) {
        formed();
        formedFarOff();
        most();
        waysCounted();
        strayed();
        stopped();
        wentRound();
        basins();
        check.finish();
    }

    private static void formed() {
        check.promise(26, "forms");
        // a . b
        // . # .
        // . . c
        PramGardens g = Check.garden("33a.b.#...c", "200;001");
        check.is("c", g.forms(0, 4), 1);
        check.row("c", g, 1);
        check.is("a, b and c", g.forms(0, 7), 5);
        check.row("a, b and c: the least row of as few", g, 0, 0, 1, 1, 2);
        check.is("none", g.forms(0, 0), 0);
        check.row("none", g);
        check.is("its own WAY counts not, it has to be pushed", g.forms(1, 2), 1);
        check.row("its own WAY", g, 1);
        check.is("one that is not there", g.forms(0, 8), -2);
        check.is("63 may be told", g.forms(0, 63), -2);
        check.is("64", g.forms(0, 64), -1);
        check.is("-1", g.forms(0, -1), -1);
        check.is("no such PRAM", g.forms(2, 0), -1);
        check.is("PRAM -1", g.forms(-1, 0), -1);
        check.row("the ROW stays", g, 1);
        check.is("nothing changes", g.pram(0, 0), 6);
        check.is("no VIEWS", g.count(7), 0);
        g.sheet(0, 1, 5, 0);
        check.is("what it has", g.forms(0, 5), 0);
        check.is("what it has not yet", g.forms(0, 7), 3);
        check.row("what it has not yet", g, 0, 0, 1);
        g.sheet(0, 1, 32, 0);
        check.is("a VIEW of what is not there", g.forms(0, 36), 1);
        g.looses(0);
        check.is("LOOSE", g.forms(0, 4), -3);
        check.is("LOOSE, and by none", g.forms(0, 8), -3);
        check.is("NONE ahead of LOOSE", g.forms(0, 64), -1);
    }

    private static void formedFarOff() {
        check.promise(26, "forms");
        PramGardens g = Check.garden("66" + "......" + "#####." + "......" + ".#####" + ".....a" + "#####.", "000");
        check.is("more than 12", g.forms(0, 1), 16);
        check.row("the first 12 alone", g, 1, 1, 1, 1, 1, 2, 2, 3, 3, 3, 3, 3);
        Check.withRule(g, "n=3");
        check.is("MINUTE as it is", g.forms(0, 1), -2);
        g.minutes(3);
        check.is("MINUTE as it is", g.forms(0, 1), 15);
        PramGardens two = Check.garden("23..a...", "100;010");
        Check.withRule(two, "k");
        check.is("others where they are", two.forms(0, 1), 2);
        check.row("others where they are", two, 0, 1);
        PramGardens once = Check.garden("26....ba......", "130");
        Check.withRule(once, "v=0");
        check.is("both at once, or one never", once.forms(0, 3), 3);
        check.row("both at once, or one never", once, 0, 3, 1);
    }

    private static void most() {
        check.promise(27, "most");
        PramGardens g = Check.garden("33a.b.#...c", "200");
        check.is("most(0)", g.most(0), 3);
        check.row("most(0)", g, 5);
        check.is("no such PRAM", g.most(1), -1);
        check.is("PRAM -1", g.most(-1), -1);
        Check.withRule(g, "1-v");
        check.is("by 1-v", g.most(0), 1);
        check.row("by 1-v", g, 1);
        Check.withRule(g, "0");
        check.is("by 0", g.most(0), 0);
        check.row("by 0", g, 0);
        g.sheet(0, 1, 56, 0);
        check.is("what it has", g.most(0), 3);
        check.row("what it has", g, 0);
        Check.withRule(g, "1");
        check.is("what it has as well", g.most(0), 6);
        check.row("what it has as well", g, 5);
        g.looses(0);
        check.is("LOOSE", g.most(0), -3);
        check.row("the ROW stays", g, 5);
        PramGardens shut = Check.garden("22.#a#", "000");
        check.is("shut in", shut.most(0), 0);
        check.row("shut in", shut, 0);
    }

    private static void waysCounted() {
        check.promise(28, "ways");
        PramGardens g = Check.garden("33a.b.#...c", "200");
        check.is("a by one", g.ways(0, 1, 1), 1);
        check.row("a by one", g, 0);
        check.is("c by one", g.ways(0, 4, 1), 1);
        check.row("c by one", g, 1);
        check.is("none by one", g.ways(0, 0, 1), 0);
        check.row("none by one", g);
        check.is("none by none", g.ways(0, 0, 0), 1);
        check.row("none by none", g);
        check.is("a by none", g.ways(0, 1, 0), 0);
        check.is("just a by two", g.ways(0, 1, 2), 2);
        check.row("just a by two", g, 0, 0);
        check.is("a and c by three", g.ways(0, 5, 3), 2);
        check.row("a and c by three", g, 0, 2, 1);
        check.is("all by five", g.ways(0, 7, 5), 4);
        check.row("all by five", g, 0, 0, 1, 1, 2);
        check.is("n 6", g.ways(0, 0, 6), -1);
        check.is("n -1", g.ways(0, 0, -1), -1);
        check.is("VIEWS 64", g.ways(0, 64, 0), -1);
        check.is("VIEWS 63", g.ways(0, 63, 0), 0);
        g.ways(0, 7, 5);
        check.is("VIEWS -1", g.ways(0, -1, 0), -1);
        check.is("no such PRAM", g.ways(1, 0, 0), -1);
        check.row("the ROW stays", g, 0, 0, 1, 1, 2);
        g.sheet(0, 1, 4, 0);
        check.is("with what it has", g.ways(0, 5, 1), 1);
        check.is("just what it has", g.ways(0, 4, 1), 1);
        g.looses(0);
        check.is("LOOSE", g.ways(0, 5, 1), -3);
        check.is("NONE ahead of LOOSE", g.ways(0, 5, 6), -1);
    }

    private static void strayed() {
        check.promise(29, "strays");
        PramGardens g = Check.garden("22....", "000");
        long[][] due = {{0, 0, 1, 1}, {0, 1, 0, 1}, {1, 0, 1, 2}, {1, 1, 1, 4}, {1, 3, 0, 1}, {2, 0, 3, 8}, {2, 3, 1, 8}
            , {8, 0, 129, 512}, {8, 3, 127, 512}, {8, 1, 1, 4}};
        for (long[] one : due) {
            String call = "strays(0, " + one[0] + ", " + one[1] + ")";
            check.is(call, g.strays(0, (int) one[0], (int) one[1]), 0);
            check.row(call, g, one[2], one[3]);
        }
        check.is("n 9", g.strays(0, 9, 0), -1);
        check.is("n -1", g.strays(0, -1, 0), -1);
        check.is("FIELD 4", g.strays(0, 0, 4), -1);
        check.is("FIELD -1", g.strays(0, 0, -1), -1);
        check.is("no such PRAM", g.strays(1, 0, 0), -1);
        check.row("the ROW stays", g, 1, 4);
        g.looses(0);
        check.is("LOOSE aside", g.strays(0, 1, 0), 0);
        check.row("LOOSE aside", g, 1, 2);
        PramGardens walled = Check.garden("221#.a", "000");
        check.is("a WALL: it stays", walled.strays(0, 1, 0), 0);
        check.row("a WALL: it stays, SLOPES aside", walled, 3, 4);
        check.is("on a WALL", walled.strays(0, 3, 1), 0);
        check.row("on a WALL", walled, 0, 1);
    }

    private static void stopped() {
        check.promise(30, "stops");
        // 1 1 2
        // a # 2
        // . 3 3
        PramGardens g = Check.garden("33112a#2.33", "000;200;220;100");
        check.is("stops(0)", g.stops(0), 6);
        check.row("stops(0)", g, 7, 6);
        check.is("at once", g.stops(1), 6);
        check.row("at once", g, 1, 0);
        check.is("stops(2)", g.stops(2), 6);
        check.row("stops(2)", g, 3, 2);
        check.is("on a SIGHT", g.stops(3), 3);
        check.is("no such PRAM", g.stops(4), -1);
        check.is("PRAM -1", g.stops(-1), -1);
        check.row("the ROW stays", g, 1, 0);
        g.looses(2);
        check.is("of a LOOSE one", g.stops(2), 6);
        check.row("of a LOOSE one", g, 3, 2);
        check.is("nothing changes", g.pram(2, 0), 8);
        g.minutes(2);
        check.is("so it goes", g.count(6), 4);
        g.minutes(1);
        check.is("so it stops", g.count(6), 0);
        PramGardens round = Check.garden("221203", "000");
        round.count(0);
        check.is("never", round.stops(0), -2);
        PramGardens wall = Check.garden("221#..", "000");
        check.is("at a WALL", wall.stops(0), 0);
        check.row("at a WALL", wall, 1, 0);
    }

    private static void wentRound() {
        check.promise(31, "rounds");
        PramGardens all = Check.garden("221203", "");
        check.is("all", all.rounds(), 4);
        check.row("all", all, 0);
        PramGardens two = Check.garden("33.2.130..#", "");
        // 2 runs down to 3's neighbour: 1 -> 4 -> 3 -> 4 ..., 5 up to 2, which stops
        check.is("those that run into a round, too", two.rounds(), 3);
        check.row("those that run into a round, too", two, 1);
        PramGardens none = Check.garden("22#1..", "");
        none.laws();
        check.is("none", none.rounds(), 0);
        check.row("none", none);
    }

    private static void basins() {
        check.promise(32, "basin");
        PramGardens g = Check.garden("33112a#2.33", "");
        check.is("basin(6)", g.basin(6), 7);
        check.row("basin(6)", g, 0, 6);
        check.is("itself alone", g.basin(3), 1);
        check.row("itself alone", g, 3, 0);
        check.is("none", g.basin(0), 0);
        check.row("none", g);
        check.is("a WALL", g.basin(4), -2);
        check.is("FIELD 9", g.basin(9), -1);
        check.is("FIELD -1", g.basin(-1), -1);
        PramGardens wall = Check.garden("2311#...", "");
        check.is("a SLOPE to a WALL", wall.basin(1), 2);
        check.row("a SLOPE to a WALL", wall, 0, 1);
    }
}
