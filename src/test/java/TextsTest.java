/** Promises 1 to 9: gardens, prams and rules told as texts. */
public final class TextsTest {
    private static final Check check = new Check("TextsTest");

    public static void main(String[] args) {
        newObject();
        signs();
        ends();
        gardensTold();
        gardensStartAnew();
        pramsTold();
        pramsRefused();
        rulesRead();
        rulesRefused();
        rulesReckoned();
        thingsOfRules();
        fieldsAndPrams();
        sheets();
        check.finish();
    }

    private static void newObject() {
        check.promise(1, "a new object");
        check.is("NONE", PramGardens.NONE, -1);
        PramGardens g = new PramGardens();
        int[] due = {2, 2, 0, 4, 0, 0, 0, 0, 0, 0, 0, 0, 0};
        for (int what = 0; what < due.length; what++) {
            check.is("count(" + what + ")", g.count(what), due[what]);
        }
        for (int field = 0; field < 4; field++) {
            check.is("field(" + field + ")", g.field(field), 0);
        }
        check.row("a new object", g);
        check.is("ways are there", g.way(0, 3), 2);
        check.is("and PRAMS can come", Check.write(g, "000").prams(), 1);
        check.is("to be pushed", g.pushes(0, 2), 0);
    }

    private static void signs() {
        check.promise(2, "sign");
        PramGardens g = new PramGardens();
        check.is("sign, highest byte first", g.sign('2' << 24 | '2' << 16 | '#' << 8 | 'a'), 4);
        check.is("sign", g.sign('3' << 24 | '.' << 16), 8);
        g.end(6);
        check.is("gardens() of 22#a3.", g.gardens(), 4);
        check.is("field(0)", g.field(0), 1);
        check.is("field(1)", g.field(1), 10);
        check.is("field(2)", g.field(2), 23);
        check.is("field(3)", g.field(3), 0);
        for (int i = 1; i <= 20; i++) {
            check.is("sign " + i, g.sign(-i), 4 * i);
        }
        check.is("sign beyond 80", g.sign(0), -1);
        check.is("count(12)", g.count(12), 80);
        g.end(77);
        check.is("sign beyond 80 from 77", g.sign(0), -1);
        check.is("count(12)", g.count(12), 77);
        g.end(76);
        check.is("sign from 76", g.sign(0), 80);
        check.is("gardens() of bytes above 127", Check.write(g, "\u00ff22....").gardens(), -1);
    }

    private static void ends() {
        check.promise(3, "end");
        PramGardens g = new PramGardens();
        check.is("end(0) of none", g.end(0), true);
        check.is("end(1) of none", g.end(1), false);
        g.sign(0);
        check.is("end(5) of 4", g.end(5), false);
        check.is("end(-1)", g.end(-1), false);
        check.is("end(min)", g.end(Integer.MIN_VALUE), false);
        check.is("count(12) behind refusals", g.count(12), 4);
        check.is("end(4) of 4", g.end(4), true);
        check.is("end(3) of 4", g.end(3), true);
        check.is("count(12)", g.count(12), 3);
        check.is("end(4) of 3", g.end(4), false);
        Check.write(g, "22....XX");
        g.end(6);
        check.is("the first signs stay", g.gardens(), 4);
    }

    private static void gardensTold() {
        check.promise(4, "gardens");
        PramGardens g = new PramGardens();
        String[] wrong = {"", "1", "7", "x", "2", "21", "27", "22", "22...", "22....."
            , "22..g.", "22..4.", "22..A.", "22.. .", "22...;", "66" + ".".repeat(35), "66" + ".".repeat(37), "2\u00b2...."};
        int[] place = {0, 0, 0, 0, 1, 1, 1, 2, 5, 6, 4, 4, 4, 4, 5, 37, 38, 1};
        for (int i = 0; i < wrong.length; i++) {
            check.is("gardens() of " + wrong[i], Check.write(g, wrong[i]).gardens(), -1 - place[i]);
            check.is("THE TEXT behind it", g.count(12), 0);
        }
        check.is("count(0) behind refusals", g.count(0), 2);
        check.is("gardens() of 36", Check.write(g, "66" + ".#abcdef0123".repeat(3)).gardens(), 36);
        int[] kinds = {0, 1, 10, 11, 12, 13, 14, 15, 20, 21, 22, 23};
        for (int field = 0; field < 36; field++) {
            check.is("field(" + field + ")", g.field(field), kinds[field % 12]);
        }
        check.is("gardens() of 2 by 3", Check.write(g, "23a#...f").gardens(), 6);
        check.is("THE TEXT behind it", g.count(12), 0);
        check.is("ROWS", g.count(0), 2);
        check.is("COLUMNS", g.count(1), 3);
        check.is("no WALLS", g.count(3), 5);
        check.is("SIGHTS", g.count(4), 33);
    }

    private static void gardensStartAnew() {
        check.promise(4, "gardens");
        PramGardens g = Check.garden("22...a", "000;001");
        Check.withRule(g, "1");
        g.saw(1, 1, 1);
        g.heard(0, 0);
        g.looses(1);
        g.minutes(3);
        g.keep(0);
        check.is("gardens() refused", Check.write(g, "22...").gardens(), -6);
        check.is("PRAMS stay", g.count(2), 2);
        check.is("MINUTE stays", g.count(5), 3);
        check.is("what can be undone stays", g.count(10), 2);
        check.is("what is kept stays", g.again(0), true);
        g.minutes(1);
        g.keep(1);
        check.is("gardens()", Check.write(g, "23.....a").gardens(), 6);
        check.is("PRAMS", g.count(2), 0);
        check.is("MINUTE", g.count(5), 0);
        check.is("LOOSE", g.count(6), 0);
        check.is("undone", g.count(10), 0);
        check.is("undo()", g.undo(), -1);
        check.is("again(0)", g.again(0), false);
        check.is("again(1)", g.again(1), false);
        check.is("seen", g.count(8), 1);
        check.is("heard", g.count(9), 1);
        check.row("minutes() ahead of it", g, 0, 0);
    }

    private static void pramsTold() {
        check.promise(5, "prams");
        PramGardens g = Check.garden("23#...a1", "");
        check.is("prams() of none", Check.write(g, "").prams(), 0);
        check.is("prams() of one", Check.write(g, "012").prams(), 1);
        check.is("prams() of two", Check.write(g, "110;121").prams(), 2);
        check.is("THE TEXT behind it", g.count(12), 0);
        check.is("PRAMS", g.count(2), 3);
        int[][] due = {{1, 2}, {4, 0}, {5, 1}};
        for (int pram = 0; pram < 3; pram++) {
            check.is("FIELD of " + pram, g.pram(pram, 0), due[pram][0]);
            check.is("WAY of " + pram, g.pram(pram, 1), due[pram][1]);
            check.is("VIEWS of " + pram, g.pram(pram, 2), 0);
            check.is("LOOSE of " + pram, g.pram(pram, 3), 0);
        }
        g.minutes(2);
        g.keep(0);
        check.is("an empty prams()", Check.write(g, "").prams(), 0);
        check.is("MINUTE behind an empty one", g.count(5), 2);
        check.is("undone behind an empty one", g.count(10), 1);
        check.is("again() behind an empty one", g.again(0), true);
        g.minutes(1);
        check.is("a refused prams()", Check.write(g, "000").prams(), -2);
        check.is("undone behind a refused one", g.count(10), 1);
        check.is("prams() of a fourth", Check.write(g, "023").prams(), 1);
        check.is("undone behind a PRAM", g.count(10), 0);
        check.is("again() behind a PRAM", g.again(0), false);
        check.is("MINUTE behind a PRAM", g.count(5), 3);
        check.is("a fifth", Check.write(g, "023").prams(), -1);
        check.is("PRAMS", g.count(2), 4);
        PramGardens four = Check.garden("22....", "000;011;102;113");
        check.is("four at once", four.count(2), 4);
        check.is("WAY of the fourth", four.pram(3, 1), 3);
    }

    private static void pramsRefused() {
        check.promise(5, "prams");
        PramGardens g = Check.garden("23#...a1", "");
        String[] wrong = {"x", "2", ";", "0", "0x", "03", "00", "001", "01", "014", "01x", "0122", "012;", "012;2"
            , "012;00", "012;0", "012.012", "012;012;012;012;", "012;012;012;012;0", "012;012;012;0120"
            , "012;012;012;01", "012;012;012;019;", "012,", "\u00b212"};
        int[] place = {0, 0, 0, 1, 1, 1, 1, 1, 2, 2, 2, 3, 4, 4
            , 5, 5, 3, 15, 15, 15
            , 14, 14, 3, 0};
        for (int i = 0; i < wrong.length; i++) {
            check.is("prams() of " + wrong[i], Check.write(g, wrong[i]).prams(), -1 - place[i]);
            check.is("PRAMS behind it", g.count(2), 0);
            check.is("THE TEXT behind it", g.count(12), 0);
        }
        PramGardens two = Check.garden("22....", "000;000");
        check.is("no room for the third", Check.write(two, "000;000;000").prams(), -9);
        check.is("no room for one that is wrong as well", Check.write(two, "000;000;x").prams(), -9);
        check.is("none came", two.count(2), 2);
        check.is("a wrong one ahead of that", Check.write(two, "000;004;000").prams(), -7);
        check.is("room for two", Check.write(two, "000;001").prams(), 2);
    }

    private static void rulesRead() {
        check.promise(6, "rule");
        PramGardens g = new PramGardens();
        String[] right = {"", "d", "007", "-1", "---d", "(((d)))", "((((d))))", "((((d))))+((((d))))", "d<s", "(d<s)=(v>h)"
            , "k*i/n", "1+2-3", "1*-2", "1<-2", "1--2", "(d=1)<(s=(v=2))", "999", "-".repeat(39) + "d"
            , "1+".repeat(19) + "12", "d=1+(s=1)*(v=1)"};
        for (String rule : right) {
            check.is("rule() of " + rule, Check.write(g, rule).rule(), 0);
            check.is("THE TEXT behind it", g.count(12), 0);
        }
    }

    private static void rulesRefused() {
        check.promise(6, "rule");
        PramGardens g = Check.garden("26....ab......", "001");
        Check.withRule(g, "s");
        String[] wrong = {"x", "-", "+1", "1+", "1+*2", "1 ", "1000", "1(", "d1", "1d", "dd", "(1", "(1))", "()", ")", "((((("
            , "((((1+(", "1<2<3", "1<2=3", "1<2+3>4", "(1<2<3)", "1=", "=1", "*", "2*/3", "(1<2)<(3<4)<5", "1~2", "~1", ":", "1:", "\u00b3"
            , "-".repeat(40), "-".repeat(41), "-".repeat(39) + "dd", "-".repeat(38) + "d+", "-".repeat(38) + "d+1"
            , "-".repeat(30) + "x" + "-".repeat(30), "-".repeat(37) + "1000", "-".repeat(36) + "1000d"};
        int[] place = {0, 1, 0, 2, 2, 1, 3, 1, 1, 1, 1, 2, 3, 1, 0, 4
            , 6, 3, 3, 5, 4, 2, 0, 0, 2, 11, 1, 0, 0, 1, 0
            , 40, 40, 40, 40, 40
            , 30, 40, 39};
        for (int i = 0; i < wrong.length; i++) {
            check.is("rule() of " + wrong[i], Check.write(g, wrong[i]).rule(), -1 - place[i]);
            check.is("THE TEXT behind it", g.count(12), 0);
        }
        check.is("THE RULE is as it was", g.sees(0), 2);
        check.is("40 signs are not too many", Check.write(g, "-".repeat(37) + "100").rule(), 0);
    }

    private static void rulesReckoned() {
        check.promise(6, "rule");
        PramGardens g = Check.garden("22.a..", "001");
        String[] so = {"7/2=3", "-7/2=-3", "7/-2=-3", "7/0=0", "-7/0=0", "2+3*4=14", "(2+3)*4=20", "10-3-2=5", "10-(3-2)=9"
            , "100/10/5=2", "100/(10/5)=50", "2*7/4=3", "7/4*2=2", "2--3=5", "--2=2", "---2=-2", "-2*-3=6", "1<2", "2>1"
            , "(1<2)=1", "(2<1)=0", "(1=1)+(2>1)=2", "999*999*999*999<0", "1<2+3", "1+1=2", "-(2+3)=-5", "1-2*3=-5"
            , "((((1))))", "007=7", "3-2-1=0", "8/2*4=16", "-d+2"};
        for (String rule : so) {
            check.is("by " + rule, Check.withRule(g, rule).sees(0), 1);
        }
        String[] not = {"0", "-1", "2<1", "1>2", "1=2", "2<2", "2>2", "d-1", "1/2", "999*999*999*999", "0/0", "(1<2)=2", "-d"};
        for (String rule : not) {
            check.is("by " + rule, Check.withRule(g, rule).sees(0), 0);
        }
    }

    private static void thingsOfRules() {
        check.promise(6, "rule");
        PramGardens g = Check.garden("26....ab.c....", "001;001;052");
        check.is("by none, 4-d", g.sees(0), 0);
        check.is("by d=4", Check.withRule(g, "d=4").sees(0), 1);
        check.is("by d=5", Check.withRule(g, "d=5").sees(0), 2);
        check.is("by s=1", Check.withRule(g, "s=1").sees(0), 2);
        check.is("by s=0", Check.withRule(g, "s=0").sees(0), 1);
        check.is("by h=1", Check.withRule(g, "h=1").sees(0), 3);
        check.is("by h=1 elsewhere", g.would(0, 5, 3), 0);
        check.is("by k=1", Check.withRule(g, "k=1").sees(0), 3);
        check.is("by k=1 elsewhere", g.would(0, 2, 1), 0);
        check.is("by k=1 with another", g.would(0, 5, 3), 1);
        check.is("by i=1", Check.withRule(g, "i=1").sees(0), 0);
        check.is("by i=1 of 1", g.sees(1), 3);
        check.is("by n=0", Check.withRule(g, "n=0").sees(0), 3);
        g.minutes(8);
        check.is("by n=0 at 8", g.sees(0), 0);
        check.is("by n=1 at 8", Check.withRule(g, "n=1").sees(0), 3);
        check.is("by v=0", Check.withRule(g, "v=0").sees(0), 3);
        g.sheet(2, 1, 4, 0);
        check.is("by v=0, of one VIEW", g.sees(0), 0);
        check.is("by v=1, of one VIEW", Check.withRule(g, "v=1").sees(0), 3);
        g.sheet(2, 1, 1, 0);
        check.is("none of what it has", g.sees(0), 2);
        check.is("by none again", Check.withRule(g, "").sees(0), 0);
        check.is("by none, 3 off", g.would(0, 2, 1), 2);
    }

    private static void fieldsAndPrams() {
        check.promise(7, "field");
        PramGardens g = Check.garden("33a.#.f3120", "011;100;203");
        int[] kinds = {10, 0, 1, 0, 15, 23, 21, 22, 20};
        for (int field = 0; field < 9; field++) {
            check.is("field(" + field + ")", g.field(field), kinds[field]);
        }
        check.throwsNone("field(9)", () -> g.field(9));
        check.throwsNone("field(-1)", () -> g.field(-1));
        check.throwsNone("field(max)", () -> g.field(Integer.MAX_VALUE));
        check.promise(8, "pram");
        check.is("ahead of 0: a WALL", g.pram(0, 4), -1);
        check.is("ahead of 1", g.pram(1, 4), 0);
        check.is("ahead of 2: the edge", g.pram(2, 4), -1);
        g.looses(2);
        check.is("LOOSE of 2", g.pram(2, 3), 1);
        g.faces(0, 3);
        check.is("VIEWS of 0", g.pram(0, 2), 1);
        check.is("WAY of 0", g.pram(0, 1), 3);
        check.is("FIELD of 0", g.pram(0, 0), 1);
        check.throwsNone("pram(3, 0)", () -> g.pram(3, 0));
        check.throwsNone("pram(-1, 0)", () -> g.pram(-1, 0));
        check.throwsNone("pram(0, 5)", () -> g.pram(0, 5));
        check.throwsNone("pram(0, -1)", () -> g.pram(0, -1));
    }

    private static void sheets() {
        check.promise(9, "sheet");
        PramGardens g = Check.garden("22....", "000;000;000");
        check.is("bytes", g.sheet(0, 3, 1, 2), 9);
        check.is("VIEWS of 0", g.pram(0, 2), 1);
        check.is("VIEWS of 1", g.pram(1, 2), 3);
        check.is("VIEWS of 2", g.pram(2, 2), 5);
        check.is("VIEWS of all added up", g.count(7), 5);
        check.is("can't be undone", g.undo(), -1);
        check.is("-2", g.sheet(0, -1, 7, 7), -2);
        check.is("-2 of ints", g.sheet(2, Integer.MIN_VALUE, 7, 7), -2);
        check.is("another kind", g.sheet(4, 1, 7, 7), -1);
        check.is("another kind first", g.sheet(-1, -1, 7, 7), -1);
        check.is("n above 4", g.sheet(1, 5, 7, 7), -1);
        check.is("n above 4 of a missing one", g.sheet(3, 5, 7, 7), -1);
        check.is("nothing changed", g.pram(2, 2), 5);
        check.is("shorts, those behind have 0", g.sheet(1, 2, -1, -1), 125);
        check.is("VIEWS of 0", g.pram(0, 2), 63);
        check.is("VIEWS of 1", g.pram(1, 2), 62);
        check.is("VIEWS of 2", g.pram(2, 2), 0);
        check.is("ints, more than PRAMS", g.sheet(2, 4, 64, 1), 3);
        check.is("by wrap-around", g.sheet(2, 2, Integer.MAX_VALUE, 1), 63);
        check.is("bytes above 127", g.sheet(0, 1, 200, 0), 8);
        check.is("a missing one", g.sheet(3, 2, 1, 1), -3);
        check.is("all 0", g.count(7), 0);
        g.sheet(0, 3, 63, 0);
        check.is("a missing one, n below 0", g.sheet(3, -5, 1, 1), -3);
        check.is("all 0", g.count(7), 0);
        check.is("none", g.sheet(0, 0, 9, 9), 0);
        g.faces(0, 1);
        g.sheet(0, 1, 63, 0);
        check.is("what was ahead can be", g.undo(), 0);
        check.is("VIEWS as ahead of faces()", g.pram(0, 2), 0);
    }
}
