import java.lang.reflect.InvocationTargetException;
import java.lang.reflect.Method;
import java.util.ArrayList;
import java.util.Arrays;
import java.util.List;
import java.util.NoSuchElementException;
import java.util.Random;

/** All promises: drawn runs of calls on PramGardens and on its plain twin, compared behind each call. */
public final class TwinTest {
    /** What an object answers behind so many calls is free. */
    private static final int MOST_CALLS = 512;
    /** More than one act and the comparison behind it can take: 24 for a text, 60 for the state. */
    private static final int CALLS_LEFT = 100;

    private final Random random;
    private final PramGardens one = new PramGardens();
    private int calls;
    private final PlainGardens twin = new PlainGardens();
    private final List<String> done = new ArrayList<>();

    private TwinTest(long seed) {
        random = new Random(seed);
    }

    public static void main(String[] args) throws Exception {
        int runs = args.length > 0 ? Integer.parseInt(args[0]) : 20000;
        long from = args.length > 1 ? Long.parseLong(args[1]) : 1;
        long[] answers = {0, 0};
        for (long seed = from; seed < from + runs; seed++) {
            TwinTest test = new TwinTest(seed);
            if (!test.run(answers)) {
                System.out.println("TwinTest, run " + seed + ":");
                int first = Math.max(0, test.done.size() - 40);
                test.done.subList(first, test.done.size()).forEach(System.out::println);
                System.exit(1);
            }
        }
        System.out.println("TwinTest: " + runs + " runs, " + answers[0] + " calls as the twin answers them, " + answers[1] + " of them refused");
    }

    private boolean run(long[] answers) throws Exception {
        while (calls < MOST_CALLS - CALLS_LEFT) {
            String name = drawnCall();
            int[] told = writesText(name);
            Object[] arguments = Arrays.stream(told).boxed().toArray();
            Object got = answer(one, name, arguments);
            Object due = answer(twin, name, arguments);
            done.add(name + Arrays.toString(arguments) + " answered " + got + ", the twin " + due);
            answers[0]++;
            answers[1] += due instanceof Number n && n.longValue() < 0 || due instanceof Boolean b && !b ? 1 : 0;
            calls++;
            if (!got.equals(due) || random.nextInt(2) == 0 && !sameRow() || random.nextInt(16) == 0 && !sameState()) {
                return false;
            }
        }
        return sameRow() && sameState();
    }

    private static Object answer(Object asked, String name, Object[] arguments) throws Exception {
        Class<?>[] types = new Class<?>[arguments.length];
        Arrays.fill(types, int.class);
        Method method = asked.getClass().getMethod(name, types);
        try {
            return method.invoke(asked, arguments);
        } catch (InvocationTargetException e) {
            if (e.getCause() instanceof NoSuchElementException) {
                return "NoSuchElementException";
            }
            return e.getCause().toString();
        }
    }

    private boolean same(String call, long got, long due) {
        calls++;
        if (got != due) {
            done.add(call + " answered " + got + ", the twin " + due);
        }
        return got == due;
    }

    private boolean sameRow() {
        boolean same = same("count(11)", one.count(11), twin.count(11));
        for (int i = 0; same && i < twin.count(11); i++) {
            same = same("row(" + i + ")", one.row(i), twin.row(i));
        }
        return same;
    }

    private boolean sameState() {
        for (int what = -1; what < 14; what++) {
            if (!same("count(" + what + ")", one.count(what), twin.count(what))) {
                return false;
            }
        }
        for (int pram = 0; pram < twin.count(2); pram++) {
            for (int what = 0; what < 5; what++) {
                if (!same("pram(" + pram + ", " + what + ")", one.pram(pram, what), twin.pram(pram, what))) {
                    return false;
                }
            }
        }
        return true;
    }

    // ---- what is drawn

    private static final String[] OFTEN = {"pushes", "pushes", "pushes", "faces", "faces", "looses", "minutes", "catches"
        , "forgets", "walk", "walk", "undo", "rule", "rule", "sheet", "prams", "keep", "again"};
    private static final String[] ALL = {"sign", "end", "gardens", "prams", "rule", "field", "pram", "sheet", "pushes", "faces"
        , "looses", "catches", "minutes", "forgets", "walk", "undo", "sees", "would", "stands", "way", "reach", "parts", "gates"
        , "nearest", "forms", "most", "ways", "strays", "stops", "rounds", "basin", "saw", "denies", "laws", "looks", "heard"
        , "forget", "fits", "asks", "pond", "law", "shoulders", "years", "keep", "again", "count", "row"};

    private String drawnCall() {
        if (done.isEmpty()) {
            return "gardens";
        }
        if (twin.count(2) == 0 && random.nextInt(4) > 0) {
            return "prams";
        }
        String name = random.nextInt(3) == 0 ? OFTEN[random.nextInt(OFTEN.length)] : ALL[random.nextInt(ALL.length)];
        boolean rare = name.equals("gardens") || name.equals("denies") || name.equals("forget") || name.equals("again");
        return rare && random.nextInt(4) > 0 ? drawnCall() : name;
    }

    /** Mostly inside, now and then one beside it, or far off. */
    private int about(int least, int highest) {
        int kind = random.nextInt(30);
        if (kind == 0) {
            return highest + 1;
        }
        if (kind == 1) {
            return least - 1;
        }
        return kind == 2 && random.nextInt(4) == 0 ? random.nextInt() : least + random.nextInt(highest - least + 1);
    }

    private int aPram() {
        return about(0, Math.max(0, twin.count(2) - 1));
    }

    private int aField() {
        return about(0, twin.count(0) * twin.count(1) - 1);
    }

    private int[] writesText(String name) {
        switch (name) {
            case "gardens":
                return written(maybeSpoilt(aGarden()));
            case "prams":
                return written(maybeSpoilt(somePrams()));
            case "rule":
            case "law":
                return written(maybeSpoilt(aRule()));
            case "walk":
                return written(maybeSpoilt(aWalk()));
            case "sign":
                return new int[] {random.nextInt()};
            case "end":
                return new int[] {about(0, 80)};
            case "field":
            case "reach":
            case "basin":
                return new int[] {aField()};
            case "pram":
                return new int[] {aPram(), about(0, 4)};
            case "sheet":
                return new int[] {about(0, 3), about(0, 4), random.nextInt(200) - 100, random.nextInt(200) - 100};
            case "pushes":
            case "faces":
                return new int[] {aPram(), about(0, 3)};
            case "minutes":
                return new int[] {random.nextInt(3) == 0 ? about(0, 60) : random.nextInt(3)};
            case "forgets":
                return new int[] {aPram(), about(0, 5)};
            case "would":
                return new int[] {aPram(), aField(), about(0, 3)};
            case "way":
                return new int[] {aField(), aField()};
            case "forms":
                return new int[] {aPram(), random.nextBoolean() ? twin.count(4) & random.nextInt(64) : about(0, 63)};
            case "ways":
                return new int[] {aPram(), random.nextBoolean() ? twin.count(4) & random.nextInt(64) : about(0, 63), about(0, 5)};
            case "strays":
                return new int[] {aPram(), random.nextInt(6) == 0 ? about(0, 8) : random.nextInt(6), aField()};
            case "saw":
                return new int[] {about(1, 5), about(0, 6), about(0, 1)};
            case "heard":
                return new int[] {about(0, 4), about(0, 2 + random.nextInt(4))};
            case "pond":
                return new int[] {about(0, 9), about(0, 9), about(0, 9)};
            case "shoulders":
                return new int[] {about(0, 20)};
            case "years":
                return new int[] {random.nextInt(), about(1, 60)};
            case "keep":
            case "again":
                return new int[] {about(0, 2)};
            case "count":
            case "row":
                return new int[] {about(0, 12)};
            case "looses":
            case "catches":
            case "sees":
            case "stands":
            case "most":
            case "stops":
                return new int[] {aPram()};
            default:
                return new int[0];
        }
    }

    private int[] written(String text) {
        Check.write(one, text);
        twin.end(0);
        for (int i = 0; i < text.length(); i += 4) {
            int four = 0;
            for (int j = i; j < i + 4; j++) {
                four = four << 8 | (j < text.length() ? text.charAt(j) & 255 : 0);
            }
            twin.sign(four);
        }
        twin.end(text.length());
        calls += 2 + (text.length() + 3) / 4;
        done.add("THE TEXT is " + text);
        return new int[0];
    }

    private String maybeSpoilt(String text) {
        if (random.nextInt(8) > 0) {
            return text.length() > 80 ? text.substring(0, 80) : text;
        }
        StringBuilder spoilt = new StringBuilder(text);
        String signs = "0123456789.#abcdefnsvhkilpt;+-*/()<>=~ \u00e4\u0000";
        for (int i = random.nextInt(3); i >= 0; i--) {
            int place = random.nextInt(spoilt.length() + 1);
            char sign = signs.charAt(random.nextInt(signs.length()));
            int kind = random.nextInt(3);
            if (kind == 0 || spoilt.length() == 0) {
                spoilt.insert(place, sign);
            } else if (kind == 1) {
                spoilt.setCharAt(place % spoilt.length(), sign);
            } else {
                spoilt.deleteCharAt(place % spoilt.length());
            }
        }
        return spoilt.length() > 80 ? spoilt.substring(0, 80) : spoilt.toString();
    }

    private String aGarden() {
        int rows = 2 + random.nextInt(5);
        int columns = 2 + random.nextInt(5);
        StringBuilder garden = new StringBuilder().append(rows).append(columns);
        String[] styles = {".", ".#", "..#a", "...#ab", "....#abc013", ".abcdef", "..0123", "0123", "0123#", "....##abcdef0123", "#", "##."};
        String style = styles[random.nextInt(styles.length)];
        for (int i = 0; i < rows * columns; i++) {
            garden.append(style.charAt(random.nextInt(style.length())));
        }
        if (random.nextInt(4) == 0) {
            return "26abcdef......";
        }
        return garden.toString();
    }

    private String somePrams() {
        StringBuilder lines = new StringBuilder();
        for (int i = random.nextInt(4); i >= 0; i--) {
            int field = random.nextInt(twin.count(0) * twin.count(1));
            for (int tries = 0; tries < 20 && twin.field(field) == 1; tries++) {
                field = random.nextInt(twin.count(0) * twin.count(1));
            }
            lines.append(lines.length() > 0 ? ";" : "").append(field / twin.count(1)).append(field % twin.count(1)).append(random.nextInt(4));
        }
        return random.nextInt(20) == 0 ? "" : lines.toString();
    }

    private String aRule() {
        if (random.nextInt(4) == 0) {
            return List.of("1", "9-d", "v<5", "6-v", "d=1", "(v=0)+(v=5)+(v-1)*(h=1)", "d>1", "k+(v>2)").get(random.nextInt(8));
        }
        String rule = random.nextInt(12) == 0 ? "" : random.nextInt(3) == 0 ? aSum(3) : anExpression(4);
        boolean tooLong = rule.length() > 40 && random.nextInt(4) > 0;
        return tooLong ? aRule() : rule;
    }

    private String anExpression(int depth) {
        return random.nextInt(3) == 0 ? aSum(depth) + "<>=".charAt(random.nextInt(3)) + aSum(depth) : aSum(depth);
    }

    private String aSum(int depth) {
        StringBuilder sum = new StringBuilder(aProduct(depth));
        for (int i = random.nextInt(3); i > 0; i--) {
            sum.append("+-".charAt(random.nextInt(2))).append(aProduct(depth));
        }
        return sum.toString();
    }

    private String aProduct(int depth) {
        StringBuilder product = new StringBuilder(aThing(depth));
        for (int i = random.nextInt(3) / 2; i > 0; i--) {
            product.append("*/".charAt(random.nextInt(2))).append(aThing(depth));
        }
        return product.toString();
    }

    private String aThing(int depth) {
        int kind = random.nextInt(8);
        if (kind == 0) {
            return "-" + aThing(depth);
        }
        if (kind == 1 && (depth > 0 || random.nextInt(5) == 0)) {
            return "(" + anExpression(depth - 1) + ")";
        }
        if (kind < 4) {
            return String.valueOf(random.nextInt(random.nextInt(6) == 0 ? 1200 : 6));
        }
        return String.valueOf("dsvhkin".charAt(random.nextInt(7)));
    }

    private String aWalk() {
        StringBuilder walk = new StringBuilder();
        for (int i = random.nextInt(random.nextInt(5) == 0 ? 32 : 8); i > 0; i--) {
            char kind = "nppppttlcf".charAt(random.nextInt(10));
            int first = kind == 'n' ? random.nextInt(10) : random.nextInt(20) == 0 ? random.nextInt(10) : random.nextInt(Math.max(1, twin.count(2)));
            walk.append(kind).append(first);
            if (kind == 'p' || kind == 't' || kind == 'f') {
                walk.append(random.nextInt(kind == 'f' ? 6 : 4));
            }
        }
        return walk.toString();
    }
}
