/** Promises 18 to 25: what is seen, where to stand, ways, parts and gates. */
public final class SeeingTest {
    private static final Check check = new Check("SeeingTest");

    public static void main(String[] args) {
        seen();
        wouldBeSeen();
        stood();
        stoodByFew();
        wayFound();
        reached();
        parted();
        gated();
        nearest();
        check.finish();
    }

    private static void seen() {
        check.promise(18, "sees");
        PramGardens g = Check.garden("26..ab.c#.....", "001;050;113");
        check.is("sees(0)", g.sees(0), 3);
        check.row("sees(0)", g, 5, 2);
        check.is("the edge", g.sees(1), 0);
        check.row("the edge", g, 0, 0);
        check.is("a WALL", g.sees(2), 0);
        check.row("a WALL", g, 0, 0);
        g.sheet(0, 1, 1, 0);
        check.is("sees(0) of one VIEW", g.sees(0), 2);
        check.row("the nearest of those it would form alone", g, 5, 3);
        Check.withRule(g, "d=5");
        check.is("by d=5", g.sees(0), 4);
        check.row("by d=5", g, 5, 5);
        check.is("no such PRAM", g.sees(3), -1);
        check.is("PRAM -1", g.sees(-1), -1);
        check.row("the ROW stays", g, 5, 5);
        check.is("VIEWS stay", g.pram(0, 2), 1);
        check.is("nothing can be undone", g.count(10), 0);
        g.looses(0);
        check.is("of a LOOSE one", g.sees(0), 4);
    }

    private static void wouldBeSeen() {
        check.promise(19, "would");
        PramGardens g = Check.garden("33a.b.#...c", "200;010");
        check.is("would(0, 1, 3)", g.would(0, 1, 3), 1);
        check.row("would(0, 1, 3)", g, 1);
        check.is("would(0, 6, 1)", g.would(0, 6, 1), 4);
        check.is("would(0, 5, 1)", g.would(0, 5, 1), 0);
        check.row("would(0, 5, 1)", g, 0);
        check.is("on a SIGHT", g.would(0, 2, 2), 4);
        check.is("a WALL", g.would(0, 4, 0), -2);
        check.is("NONE ahead of a WALL", g.would(0, 4, 4), -1);
        check.is("FIELD 9", g.would(0, 9, 0), -1);
        check.is("FIELD -1", g.would(0, -1, 0), -1);
        check.is("WAY 4", g.would(0, 0, 4), -1);
        check.is("WAY -1", g.would(0, 0, -1), -1);
        check.is("no such PRAM", g.would(2, 0, 0), -1);
        check.row("the ROW stays", g, 1);
        Check.withRule(g, "k");
        check.is("others where they are", g.would(0, 1, 1), 2);
        check.is("it is no other one itself", g.would(1, 1, 1), 0);
        check.is("another is where it was", g.would(1, 6, 1), 4);
        check.is("FIELD stays", g.pram(0, 0), 6);
    }

    private static void stood() {
        check.promise(20, "stands");
        // a . b
        // . # .
        // . . c
        PramGardens g = Check.garden("33a.b.#...c", "200");
        // no stand sees two: b from 0 to the right, a from 1 to the left, c from 2 down are the first of each
        check.is("stands(0)", g.stands(0), 3);
        check.row("stands(0)", g, 7, 1, 7, 10);
        check.is("no such PRAM", g.stands(1), -1);
        check.is("PRAM -1", g.stands(-1), -1);
        g.sheet(0, 1, 6, 0);
        check.is("of VIEWS as they are", g.stands(0), 1);
        check.row("of VIEWS as they are", g, 1, 7);
        g.sheet(0, 1, 7, 0);
        check.is("none left", g.stands(0), 0);
        check.row("none left", g, 0);
        g.sheet(3, 0, 0, 0);
        Check.withRule(g, "0");
        check.is("none by the rule", g.stands(0), 0);
        check.row("none by the rule", g, 0);
        g.looses(0);
        check.is("of a LOOSE one", Check.withRule(g, "s=2").stands(0), 1);
        check.row("of a LOOSE one", g, 4, 10);
    }

    private static void stoodByFew() {
        check.promise(20, "stands");
        PramGardens row = Check.garden("26abcdef......", "100");
        check.is("one row", Check.withRule(row, "1").stands(0), 2);
        // from 0 to the right all but a; a from 1 to the left
        check.row("one row", row, 63, 1, 7);
        check.is("one row, next ones alone", Check.withRule(row, "d=1").stands(0), 6);
        check.row("one row, next ones alone", row, 63, 1, 5, 7, 9, 13, 17);
        check.is("three stands", Check.withRule(row, "d<3").stands(0), 3);
        // three see six only by pairs: c d from 1 to the right, a b from 2 to the left, e f from 3 to the right
        check.row("three stands", row, 63, 5, 11, 13);
        PramGardens six = Check.garden("66a....b......c....d......e....f......", "100");
        // a c e and b d f stand in columns, all seen from below
        check.is("by far", Check.withRule(six, "1").stands(0), 2);
        check.row("by far", six, 63, 4 * 30, 4 * 35);
        check.is("by far, 4-d", Check.withRule(six, "").stands(0), 4);
        // a and b alone from the first row, then c e and d f at once from the second one down
        check.row("by far, 4-d", six, 63, 7, 9, 26, 46);
    }

    private static void wayFound() {
        check.promise(21, "way");
        PramGardens g = Check.garden("33a1b2#.#0c", "");
        check.is("way(0, 8)", g.way(0, 8), 4);
        check.row("way(0, 8)", g, 1, 1, 2, 2);
        check.is("way(8, 3)", g.way(8, 3), 5);
        check.row("way(8, 3)", g, 0, 0, 3, 3, 2);
        check.is("like ones", g.way(5, 5), 0);
        check.row("like ones", g);
        check.is("a WALL", g.way(0, 4), -2);
        check.is("from a WALL", g.way(6, 0), -2);
        check.is("like WALLS", g.way(4, 4), -2);
        check.is("no such FIELD", g.way(9, 0), -1);
        check.is("no such FIELD", g.way(0, 9), -1);
        check.is("no such FIELD, a WALL", g.way(4, -1), -1);
        check.row("the ROW stays", g);
        PramGardens open = Check.garden("33.........", "");
        check.is("the least row", open.way(8, 0), 4);
        check.row("the least row", open, 0, 0, 3, 3);
        check.is("the least row", open.way(6, 2), 4);
        check.row("the least row", open, 0, 0, 1, 1);
        PramGardens apart = Check.garden("33.#.##....", "");
        check.is("there is no way", apart.way(0, 8), -2);
        PramGardens snake = Check.garden("66" + "......" + "#####." + "......" + ".#####" + "......" + "#####.", "");
        check.is("more than 12", snake.way(0, 35), 20);
        check.row("the first 12 alone", snake, 1, 1, 1, 1, 1, 2, 2, 3, 3, 3, 3, 3);
    }

    private static void reached() {
        check.promise(22, "reach");
        PramGardens g = Check.garden("33.#..#.###", "");
        check.is("reach(0)", g.reach(0), 2);
        check.row("reach(0)", g, 1, 3);
        check.is("reach(5)", g.reach(5), 2);
        check.row("reach(5)", g, 1, 2);
        check.is("a WALL", g.reach(1), -2);
        check.is("FIELD 9", g.reach(9), -1);
        check.is("FIELD -1", g.reach(-1), -1);
        check.row("the ROW stays", g, 1, 2);
        PramGardens open = Check.garden("33.........", "");
        check.is("from the middle", open.reach(4), 9);
        check.row("the first of as far ones", open, 2, 0);
        check.is("from the end", open.reach(8), 9);
        check.row("from the end", open, 4, 0);
        check.is("from the first", open.reach(0), 9);
        check.row("from the first", open, 4, 8);
        check.is("from a side", open.reach(3), 9);
        check.row("from a side", open, 3, 2);
        PramGardens alone = Check.garden("22##.#", "");
        check.is("itself alone", alone.reach(2), 1);
        check.row("itself alone", alone, 0, 2);
    }

    private static void parted() {
        check.promise(23, "parts");
        PramGardens g = Check.garden("33.#..#.#..", "");
        check.is("parts()", g.parts(), 2);
        check.row("parts()", g, 4, 2);
        PramGardens like = Check.garden("33.#..#..#.", "");
        check.is("as large ones", like.parts(), 2);
        check.row("the first of as large ones", like, 3, 0);
        check.is("one", Check.garden("22#.##", "").parts(), 1);
        PramGardens single = Check.garden("33#.#.#.#.#", "");
        check.is("single ones", single.parts(), 4);
        check.row("single ones", single, 1, 1);
        PramGardens whole = Check.garden("22#...", "");
        check.is("one of three", whole.parts(), 1);
        check.row("one of three", whole, 3, 1);
        PramGardens none = Check.garden("22####", "");
        none.saw(1, 1, 1);
        none.laws();
        check.is("none", none.parts(), 0);
        check.row("none", none);
        check.is("slopes part nothing", Check.garden("221302", "").parts(), 1);
    }

    private static void gated() {
        check.promise(24, "gates");
        PramGardens g = Check.garden("33.#.....#.", "");
        check.is("gates()", g.gates(), 3);
        check.row("gates()", g, 3);
        PramGardens corner = Check.garden("22...#", "");
        check.is("the first FIELD", corner.gates(), 1);
        check.row("the first FIELD", corner, 0);
        PramGardens open = Check.garden("33.........", "");
        open.laws();
        check.is("none", open.gates(), 0);
        check.row("none", open);
        check.is("one alone is none", Check.garden("22.###", "").gates(), 0);
        check.is("WALLS alone", Check.garden("22####", "").gates(), 0);
        PramGardens row = Check.garden("26......######", "");
        check.is("a row", row.gates(), 4);
        check.row("a row", row, 1);
        check.is("GARDENS stay", row.count(3), 6);
    }

    private static void nearest() {
        check.promise(25, "nearest");
        PramGardens g = Check.garden("33.#..#....", "000;020;220;120");
        check.is("nearest()", g.nearest(), 1);
        check.row("nearest()", g, 1, 3);
        PramGardens like = Check.garden("33.........", "000;020;220;200");
        check.is("like ones", like.nearest(), 2);
        check.row("like ones", like, 0, 1);
        PramGardens apart = Check.garden("33.#.##....", "000;020;220");
        check.is("not by a way that is not there", apart.nearest(), 2);
        check.row("not by a way that is not there", apart, 1, 2);
        PramGardens two = Check.garden("33.#.##....", "000;020");
        two.sees(0);
        check.is("none have a way", two.nearest(), -2);
        check.row("the ROW stays", two, 0, 0);
        check.is("one alone", Check.garden("22....", "000").nearest(), -2);
        check.is("none", Check.garden("22....", "").nearest(), -2);
        PramGardens same = Check.garden("22....", "000;010;010");
        check.is("on one FIELD", same.nearest(), 0);
        check.row("on one FIELD", same, 1, 2);
    }
}
