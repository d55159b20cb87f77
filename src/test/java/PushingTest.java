/** Promises 10 to 17: pushing, turning, letting go, minutes, walks, and what is undone. */
public final class PushingTest {
    private static final Check check = new Check("PushingTest");

    public static void main(String[] args) {
        pushed();
        pushedRefused();
        looked();
        turned();
        letGoAndCaught();
        minutesGoBy();
        minutesInTurn();
        forgotten();
        walks();
        walksRefused();
        undone();
        check.finish();
    }

    private static void pushed() {
        check.promise(10, "pushes");
        // a . b
        // . # .
        // . . c
        PramGardens g = Check.garden("33a.b.#...c", "200");
        check.is("pushes(0, 1)", g.pushes(0, 1), 4);
        check.row("pushes(0, 1)", g, 7, 1);
        check.is("WAY", g.pram(0, 1), 1);
        check.is("VIEWS", g.pram(0, 2), 4);
        check.is("pushes(0, 3)", g.pushes(0, 3), 0);
        check.row("pushes(0, 3)", g, 6, 1);
        check.is("pushes(0, 0)", g.pushes(0, 0), 1);
        check.row("pushes(0, 0)", g, 3, 2);
        check.is("pushes(0, 0) onto a SIGHT", g.pushes(0, 0), 0);
        check.row("pushes(0, 0) onto a SIGHT", g, 0, 2);
        check.is("pushes(0, 1)", g.pushes(0, 1), 2);
        check.row("pushes(0, 1)", g, 1, 3);
        check.is("it can be undone", g.count(10), 5);
        check.is("MINUTE stays", g.count(5), 0);
        check.is("undo()", g.undo(), 4);
        check.is("FIELD behind undo()", g.pram(0, 0), 0);
        check.is("WAY behind undo()", g.pram(0, 1), 0);
        check.is("VIEWS behind undo()", g.pram(0, 2), 5);
    }

    private static void pushedRefused() {
        check.promise(10, "pushes");
        PramGardens g = Check.garden("33a.b.#...c", "100;200");
        g.pushes(1, 1);
        check.is("a WALL", g.pushes(0, 1), -3);
        check.is("the edge", g.pushes(0, 3), -3);
        check.is("no such PRAM", g.pushes(2, 0), -1);
        check.is("PRAM -1", g.pushes(-1, 0), -1);
        check.is("WAY 4", g.pushes(0, 4), -1);
        check.is("WAY -1", g.pushes(0, -1), -1);
        check.is("WAY stays", g.pram(0, 1), 0);
        check.is("FIELD stays", g.pram(0, 0), 3);
        check.is("none can be undone but the first", g.count(10), 1);
        check.row("the one done", g, 7, 1);
        g.looses(0);
        check.is("LOOSE", g.pushes(0, 0), -2);
        check.is("LOOSE ahead of a WALL", g.pushes(0, 1), -2);
        check.is("NONE ahead of LOOSE", g.pushes(0, 4), -1);
    }

    private static void looked() {
        check.promise(10, "pushes");
        PramGardens g = Check.garden("26.ba.ab......", "101");
        Check.withRule(g, "d=4");
        g.pushes(0, 0);
        check.is("the nearest one of a SIGHT alone", g.faces(0, 1), 0);
        Check.withRule(g, "d>1");
        check.is("a nearer b is not passed over", g.would(0, 0, 1), 1);
        Check.withRule(g, "2-v");
        check.is("all by VIEWS as ahead of it", g.faces(0, 2), 0);
        check.is("all by VIEWS as ahead of it", g.faces(0, 1), 3);
        PramGardens walled = Check.garden("26..#a........", "001");
        check.is("none behind a WALL", walled.would(0, 0, 1), 0);
        Check.withRule(walled, "1");
        check.is("none behind a WALL, whatever the rule", walled.would(0, 0, 1), 0);
        check.is("the other side of it", walled.would(0, 5, 3), 1);
    }

    private static void turned() {
        check.promise(11, "faces");
        PramGardens g = Check.garden("33a.b.#...c", "012;100");
        check.is("faces(0, 3)", g.faces(0, 3), 1);
        check.row("faces(0, 3)", g, 1, 1);
        check.is("faces(0, 1)", g.faces(0, 1), 2);
        check.row("faces(0, 1)", g, 1, 2);
        check.is("FIELD", g.pram(0, 0), 1);
        check.is("WAY", g.pram(0, 1), 1);
        check.is("WAY is that", g.faces(0, 1), -3);
        check.is("to a WALL", g.faces(0, 2), 0);
        check.is("to the edge", g.faces(0, 0), 0);
        check.is("no such PRAM", g.faces(2, 0), -1);
        check.is("PRAM -1", g.faces(-1, 0), -1);
        check.is("WAY 4", g.faces(0, 4), -1);
        check.is("WAY -1", g.faces(0, -1), -1);
        check.is("can be undone", g.count(10), 4);
        g.looses(1);
        check.is("LOOSE", g.faces(1, 1), -2);
        check.is("LOOSE ahead of WAY", g.faces(1, 0), -2);
        check.row("the one done", g, 1, 2);
        check.is("undo() of looses()", g.undo(), 4);
        check.is("LOOSE behind undo()", g.count(6), 0);
        check.is("undo()", g.undo(), 3);
        check.is("WAY behind undo()", g.pram(0, 1), 2);
        check.is("undo()", g.undo(), 2);
        check.is("WAY behind undo()", g.pram(0, 1), 1);
        check.is("undo()", g.undo(), 1);
        check.is("VIEWS behind undo()", g.pram(0, 2), 1);
    }

    private static void letGoAndCaught() {
        PramGardens g = Check.garden("22....", "000;000;000");
        check.promise(12, "looses");
        g.pushes(0, 1);
        check.is("looses(2)", g.looses(2), 1);
        check.is("looses(0)", g.looses(0), 2);
        check.is("again", g.looses(0), -2);
        check.is("no such PRAM", g.looses(3), -1);
        check.is("PRAM -1", g.looses(-1), -1);
        check.is("LOOSE", g.count(6), 5);
        check.row("the ROW of pushes() stays", g, 1, 0);
        check.promise(13, "catches");
        check.is("catches(2)", g.catches(2), 1);
        check.is("one that is not", g.catches(2), -2);
        check.is("one that never was", g.catches(1), -2);
        check.is("no such PRAM", g.catches(3), -1);
        check.is("PRAM -1", g.catches(-1), -1);
        check.is("catches(0)", g.catches(0), 0);
        check.is("LOOSE", g.count(6), 0);
        check.is("can be undone", g.count(10), 5);
        check.row("the ROW of pushes() stays", g, 1, 0);
    }

    private static void minutesGoBy() {
        check.promise(14, "minutes");
        // 1 1 2
        // a # 2
        // . 3 3
        PramGardens g = Check.garden("33112a#2.33", "000;120;223");
        check.is("minutes(0)", g.minutes(0), 0);
        check.row("minutes(0)", g, 0, 0);
        check.is("minutes(0) can be undone", g.count(10), 1);
        check.is("minutes(61)", g.minutes(61), -1);
        check.is("minutes(-1)", g.minutes(-1), -1);
        g.looses(0);
        check.is("minutes(1)", g.minutes(1), 1);
        check.row("minutes(1)", g, 1, 0);
        check.is("FIELD", g.pram(0, 0), 1);
        check.is("WAY", g.pram(0, 1), 1);
        check.is("those that are not LOOSE stay", g.pram(2, 0), 8);
        g.looses(1);
        check.is("minutes(4)", g.minutes(4), 1);
        check.row("minutes(4)", g, 7, 0);
        check.is("0 has come to", g.pram(0, 0), 7);
        check.is("1 has come to", g.pram(1, 0), 6);
        check.is("LOOSE", g.count(6), 1);
        check.is("MINUTE", g.count(5), 5);
        check.is("minutes(60)", g.minutes(60), 0);
        check.row("minutes(60)", g, 1, 0);
        check.is("MINUTE", g.count(5), 65);
        check.is("0 has come to", g.pram(0, 0), 6);
        check.is("its WAY stays", g.pram(0, 1), 3);
    }

    private static void minutesInTurn() {
        check.promise(14, "minutes");
        // . . . a: both run to the right, and see more SIGHTS the more are on the FIELD
        PramGardens g = Check.garden("26111.ab......", "001;000");
        g.looses(0);
        g.looses(1);
        Check.withRule(g, "k");
        check.is("minutes(1)", g.minutes(1), 2);
        check.row("the second one finds the first one there, the first one does not find it", g, 2, 2);
        check.is("VIEWS of 0", g.pram(0, 2), 0);
        check.is("VIEWS of 1", g.pram(1, 2), 3);
        Check.withRule(g, "n=1");
        check.is("minutes(5)", g.minutes(5), 0);
        check.row("MINUTE is 1 in the next one", g, 4, 2);
        check.is("VIEWS of 0", g.pram(0, 2), 3);
        check.is("their FIELD", g.pram(0, 0), 3);
        PramGardens wall = Check.garden("22031#", "002;013;102");
        for (int pram = 0; pram < 3; pram++) {
            wall.looses(pram);
        }
        check.is("the edge, a FIELD, a WALL", wall.minutes(1), 1);
        check.is("LOOSE", wall.count(6), 2);
        check.is("WAY of one at the edge stays", wall.pram(0, 1), 2);
        check.is("WAY of one at a WALL stays", wall.pram(2, 1), 2);
        check.is("one on a PATH stops, too", Check.garden("22....", "000").minutes(1), 0);
    }

    private static void forgotten() {
        check.promise(15, "forgets");
        PramGardens g = Check.garden("22....", "000");
        g.sheet(0, 1, 41, 0);
        check.is("forgets(0, 3)", g.forgets(0, 3), 33);
        check.is("again", g.forgets(0, 3), -2);
        check.is("forgets(0, 5)", g.forgets(0, 5), 1);
        check.is("forgets(0, 0)", g.forgets(0, 0), 0);
        check.is("SIGHT 6", g.forgets(0, 6), -1);
        check.is("SIGHT -1", g.forgets(0, -1), -1);
        check.is("no such PRAM", g.forgets(1, 0), -1);
        check.is("PRAM -1", g.forgets(-1, 0), -1);
        check.is("can be undone", g.undo(), 2);
        check.is("VIEWS", g.pram(0, 2), 1);
        g.looses(0);
        check.is("of a LOOSE one", g.forgets(0, 0), 0);
    }

    private static void walks() {
        check.promise(16, "walk");
        PramGardens g = Check.garden("33a.b.#...c", "200;020");
        check.is("an empty one", Check.write(g, "").walk(), 0);
        check.row("an empty one", g, 0, 0);
        check.is("it can't be undone", g.count(10), 0);
        check.is("all done", Check.write(g, "p01t03p03p00f02n5l0c0n0").walk(), 9);
        check.row("all done", g, 0, 1);
        check.is("MINUTE", g.count(5), 5);
        check.is("THE TEXT", g.count(12), 0);
        check.is("FIELD", g.pram(0, 0), 3);
        check.is("can be undone as one", g.count(10), 1);
        check.is("undo()", g.undo(), 0);
        check.is("FIELD behind undo()", g.pram(0, 0), 6);
        check.is("VIEWS behind undo()", g.count(7), 0);
        check.is("MINUTE behind undo()", g.count(5), 0);
        check.is("one act alone", Check.write(g, "n3").walk(), 1);
        check.is("one act alone can be undone", g.count(10), 1);
        check.is("one act ahead of a refused one", Check.write(g, "n3n2c0").walk(), 2);
        check.is("undo()", g.undo(), 1);
        check.is("MINUTE behind undo()", g.count(5), 3);
    }

    private static void walksRefused() {
        check.promise(16, "walk");
        PramGardens g = Check.garden("33a.b.#...c", "200;020");
        check.is("till one is refused", Check.write(g, "p01p01p01p00").walk(), 2);
        check.row("till one is refused", g, 1, 1);
        check.is("FIELD", g.pram(0, 0), 8);
        check.is("can be undone", g.count(10), 1);
        check.is("the first is refused", Check.write(g, "p90n9").walk(), 0);
        check.row("the first is refused", g, 1, 1);
        check.is("none more can be undone", g.count(10), 1);
        check.is("MINUTE", g.count(5), 0);
        String[] wrong = {"x", "n", "nx", "n1x", "p", "p0", "p04", "p0x", "t14", "f06", "f0", "l", "la", "c-", "n:", "p:0", "n1n", "n1p0", "P00"
            , "n1".repeat(29) + "n1n", "n1".repeat(30) + "x", "n1".repeat(30) + "n", "n1".repeat(29) + "p00", "n1".repeat(29) + "p0"
            , "n1".repeat(29) + "p", "n1".repeat(29) + "ppp", "n1".repeat(40), "p00".repeat(20) + "n", "n1 n1", "n1;n1", "\u00ee1"};
        int[] place = {0, 1, 1, 2, 1, 2, 2, 2, 2, 2, 2, 1, 1, 1, 1, 1, 3, 4, 0
            , 60, 60, 60, 60, 60
            , 59, 59, 60, 60, 2, 2, 0};
        for (int i = 0; i < wrong.length; i++) {
            check.is("walk() of " + wrong[i], Check.write(g, wrong[i]).walk(), -1 - place[i]);
            check.is("THE TEXT behind it", g.count(12), 0);
        }
        check.is("nothing was done", g.count(5), 0);
        check.row("the ROW stays", g, 1, 1);
        check.is("60 signs are not too many", Check.write(g, "n1".repeat(30)).walk(), 30);
        check.is("f of a SIGHT 5 can stand", Check.write(g, "f05").walk(), 0);
    }

    private static void undone() {
        check.promise(17, "undo");
        PramGardens g = Check.garden("22a...", "100;110");
        check.is("none", g.undo(), -1);
        g.faces(0, 1);
        g.looses(0);
        g.minutes(1);
        g.faces(1, 3);
        check.is("refused ones are not kept", g.faces(1, 3), -3);
        check.is("VIEWS ahead of it", g.count(7), 0);
        g.pushes(1, 0);
        g.faces(1, 3);
        check.is("undo() of faces()", g.undo(), 5);
        check.is("undo() of pushes()", g.undo(), 4);
        check.is("FIELD", g.pram(1, 0), 3);
        check.is("undo() of faces()", g.undo(), 3);
        check.is("WAY", g.pram(1, 1), 0);
        check.is("undo() of minutes()", g.undo(), 2);
        check.is("MINUTE", g.count(5), 0);
        check.is("LOOSE", g.count(6), 1);
        check.is("undo() of looses()", g.undo(), 1);
        check.is("LOOSE", g.count(6), 0);
        check.is("undo() of faces()", g.undo(), 0);
        check.is("WAY", g.pram(0, 1), 0);
        check.is("none", g.undo(), -1);
        for (int i = 1; i <= 20; i++) {
            g.minutes(1);
            check.is("can be undone", g.count(10), Math.min(i, 15));
        }
        for (int i = 14; i >= 0; i--) {
            check.is("undo()", g.undo(), i);
        }
        check.is("none", g.undo(), -1);
        check.is("MINUTE", g.count(5), 5);
        g.looses(0);
        g.catches(0);
        g.undo();
        check.is("undo() of catches()", g.count(6), 1);
        PramGardens far = Check.garden("66" + ".".repeat(36), "000");
        for (int i = 0; i < 18; i++) {
            far.pushes(0, i < 5 ? 1 : i < 10 ? 2 : i < 15 ? 3 : 0);
        }
        int[] due = {24, 30, 31, 32, 33, 34, 35, 29, 23, 17, 11, 5, 4, 3};
        for (int i = 0; i < due.length; i++) {
            check.is("undo()", far.undo(), 14 - i);
            check.is("FIELD behind undo()", far.pram(0, 0), i == 0 ? 18 : due[i - 1]);
        }
        check.is("the last", far.undo(), 0);
        check.is("FIELD", far.pram(0, 0), 3);
    }
}
