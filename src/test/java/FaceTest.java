import java.lang.management.ManagementFactory;
import java.lang.reflect.Field;
import java.lang.reflect.Method;
import java.lang.reflect.Modifier;
import java.nio.file.Files;
import java.nio.file.Path;
import java.util.Arrays;
import java.util.HashSet;
import java.util.Set;
import java.util.TreeSet;
import java.util.stream.Collectors;

/** The face as the document writes it out, LANGUAGE.md's rules that can be seen from outside, and the room that calls take. */
public final class FaceTest {
    private static final String FACE = "sign(int) end(int) gardens() prams() rule() field(int) pram(int,int) sheet(int,int,int,int)"
        + " pushes(int,int) faces(int,int) looses(int) catches(int) minutes(int) forgets(int,int) walk() undo() sees(int)"
        + " would(int,int,int) stands(int) way(int,int) reach(int) parts() gates() nearest() forms(int,int) most(int)"
        + " ways(int,int,int) strays(int,int,int) stops(int) rounds() basin(int) saw(int,int,int) denies() laws() looks()"
        + " heard(int,int) forget() fits() asks() pond(int,int,int) law() shoulders(int) years(int,int) keep(int) again(int)"
        + " count(int) row(int)";
    private static final String WHOLE_RULE = "-(d*s+v*h-k/(i+1)-n)+((((d))))+100-d-1";

    private static final Check check = new Check("FaceTest");

    public static void main(String[] args) throws Exception {
        check.promise(1, "the face");
        members();
        classesInside();
        signsOfTheSource();
        sizes();
        room();
        check.finish();
    }

    private static void members() throws Exception {
        Set<String> open = new TreeSet<>();
        for (Method method : PramGardens.class.getDeclaredMethods()) {
            if (!Modifier.isPrivate(method.getModifiers())) {
                check.is(method.getName() + " is public", Modifier.isPublic(method.getModifiers()), true);
                open.add(method.getName() + Arrays.stream(method.getParameterTypes()).map(Class::getName).collect(Collectors.joining(",", "(", ")")));
                String type = method.getReturnType().getName();
                String due = Set.of("end", "keep", "again").contains(method.getName()) ? "boolean" : method.getName().equals("row") ? "long" : "int";
                check.is(method.getName() + " answers " + type, type.equals(due), true);
            }
        }
        check.is("the calls are those of the document: " + open, open.equals(new TreeSet<>(Arrays.asList(FACE.split(" ")))), true);
        check.is("public and final", PramGardens.class.getModifiers(), Modifier.PUBLIC | Modifier.FINAL);
        check.is("one constructor", PramGardens.class.getDeclaredConstructors().length, 1);
        check.is("it is public", Modifier.isPublic(PramGardens.class.getDeclaredConstructor().getModifiers()), true);
        for (Field field : PramGardens.class.getDeclaredFields()) {
            boolean none = field.getName().equals("NONE");
            check.is(field.getName() + " is private", Modifier.isPrivate(field.getModifiers()), !none);
        }
    }

    private static void classesInside() {
        Set<String> names = Arrays.stream(FACE.split(" ")).map(call -> call.substring(0, call.indexOf('('))).collect(Collectors.toSet());
        Class<?>[] inside = PramGardens.class.getDeclaredClasses();
        check.is("at most twelve classes", inside.length + 1 <= 12, true);
        for (Class<?> one : inside) {
            check.is(one.getName() + " is static", Modifier.isStatic(one.getModifiers()), true);
            check.is(one.getName() + " is not public", Modifier.isPublic(one.getModifiers()), false);
            for (Method method : one.getDeclaredMethods()) {
                check.is(one.getName() + "." + method.getName() + " bears no name of the face", names.contains(method.getName()), false);
                check.is(method.getName() + " takes at most seven", method.getParameterCount() <= 7, true);
            }
            for (Field field : one.getDeclaredFields()) {
                boolean changes = Modifier.isStatic(field.getModifiers()) && !Modifier.isFinal(field.getModifiers());
                check.is(field + " is no static state", changes, false);
            }
        }
        for (Method method : PramGardens.class.getDeclaredMethods()) {
            boolean hidden = Modifier.isPrivate(method.getModifiers());
            check.is(method.getName() + ", if private, bears no name of the face", hidden && names.contains(method.getName()), false);
        }
    }

    private static void signsOfTheSource() throws Exception {
        String source = source();
        check.is("the source has signs 1 to 127 alone", source.chars().allMatch(c -> c > 0 && c < 128), true);
        String code = codeOf(source);
        String[] ruledOut = {"finally", "::", "->", "hashCode", "synchronized", "assert", "static {", "Exact(", "package ", "instanceof Object"
            , "ArrayIndexOutOfBoundsException", "NullPointerException", "ClassCastException", "NegativeArraySizeException"
            , "ArrayStoreException", "catch (Exception", "catch (Throwable", "System.out", "System.nanoTime", "System.currentTime"
            , "Random", "Thread"};
        for (String sign : ruledOut) {
            check.is("the source has " + sign, code.contains(sign), false);
        }
        Set<String> library = Set.of("Arrays", "ArrayList", "List", "Iterator", "NoSuchElementException");
        code.lines().filter(line -> line.startsWith("import ")).forEach(line ->
            check.is(line, library.contains(line.replace("import java.util.", "").replace(";", "").trim()), true));
    }

    private static String source() throws Exception {
        return Files.readString(Path.of("src/main/java/PramGardens.java"));
    }

    private static String codeOf(String source) {
        return source.replaceAll("(?s)/\\*.*?\\*/", "").replaceAll("//[^\n]*", "").replaceAll("\"[^\"\n]*\"", "\"\"");
    }

    /** Short methods, and few fields beside constants. */
    private static void sizes() throws Exception {
        Set<Class<?>> all = new HashSet<>(Arrays.asList(PramGardens.class.getDeclaredClasses()));
        all.add(PramGardens.class);
        for (Class<?> one : all) {
            long fields = Arrays.stream(one.getDeclaredFields()).filter(field -> !Modifier.isStatic(field.getModifiers())).count();
            check.is(one.getName() + " has at most twenty fields, not " + fields, fields <= 20, true);
        }
        int methods = 0;
        String head = "";
        int length = 0;
        for (String line : source().split("\n")) {
            boolean starts = line.matches("( {4}| {8})[A-Za-z].*\\) (throws \\w+ )?\\{") && !line.matches(" *(for|if|while|switch|else).*");
            head = starts ? line : head;
            length = starts ? 1 : length + 1;
            if (!head.isEmpty() && line.equals(head.replaceAll("\\S.*", "") + "}")) {
                check.is(head.trim() + " has at most sixty lines, not " + length, length <= 60, true);
                methods++;
                head = "";
            }
        }
        check.is("methods were found, not " + methods, methods > 48, true);
    }

    /** Calls make no objects: what they need is made with the object itself, which is small. */
    private static void room() {
        com.sun.management.ThreadMXBean bean = (com.sun.management.ThreadMXBean) ManagementFactory.getThreadMXBean();
        long id = Thread.currentThread().getId();
        long sum = askAll(Check.garden("66" + ".#abcdef0123".repeat(3), "000;020;040;110"));
        long start = bean.getThreadAllocatedBytes(id);
        PramGardens g = Check.garden("66" + ".#abcdef0123".repeat(3), "000;020;040;110");
        long made = bean.getThreadAllocatedBytes(id);
        sum += askAll(g);
        long asked = bean.getThreadAllocatedBytes(id);
        check.is("an object takes less than 40,000 bytes, not " + (made - start), made - start < 40_000, true);
        check.is("calls take next to nothing, not " + (asked - made), asked - made < 4_000, true);
        check.is("they were asked", sum != 0, true);
    }

    private static long askAll(PramGardens g) {
        long sum = 0;
        Check.withRule(g, WHOLE_RULE);
        for (int i = 0; i < 10; i++) {
            int pram = i % 4;
            sum += g.pushes(pram, i % 4) + g.faces(pram, i % 3) + g.looses(pram) + g.minutes(2) + g.catches(pram) + g.forgets(pram, i % 6);
            sum += g.undo() + g.sees(pram) + g.would(pram, i, 1) + g.stands(pram) + g.way(0, i) + g.reach(i) + g.parts() + g.gates();
            sum += g.nearest() + g.forms(pram, 63) + g.most(pram) + g.ways(pram, 5, 5) + g.strays(pram, 8, i) + g.stops(pram);
            sum += g.rounds() + g.basin(i) + g.saw(1, 1, 1) + g.laws() + g.looks() + g.heard(2, 1) + g.fits() + g.asks();
            sum += g.pond(i % 10, 3, 4) + g.shoulders(i) + g.years(i, 60) + (g.keep(i % 3) ? 1 : 0) + (g.again(i % 3) ? 1 : 0);
            sum += g.law() + g.walk() + g.count(i % 13) + g.sheet(2, 4, i, i);
        }
        return sum;
    }
}
