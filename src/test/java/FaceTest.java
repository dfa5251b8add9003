import java.lang.reflect.Constructor;
import java.lang.reflect.Field;
import java.lang.reflect.Method;
import java.lang.reflect.Modifier;
import java.nio.file.Files;
import java.nio.file.Path;
import java.util.ArrayList;
import java.util.Arrays;
import java.util.List;
import java.util.Set;
import java.util.TreeSet;
import java.util.regex.Matcher;
import java.util.regex.Pattern;

/** The public face of the document, and those rules of the language that can be seen from outside. */
public final class FaceTest {
    private static final Due due = new Due("FaceTest");
    private static final String FACE = """
        int pond(int int int int), int water(int), int far(int int), int stone(int int int), int ofStone(int int),
        int back(int), long ring(int int), int meet(int int int), int first(int), int wish(int int),
        int ofWish(int int), int drop(int), int apart(int int), int atOnce(), int soonest(int), int alone(int),
        int sunset(int), int reed(int int), int pull(int), int fits(int int), int dig(int), int sheet(int int int),
        int lose(int), int put(int int int), long cell(int int int), int copy(int int int int int), int tell(int),
        int make(int), int as(int int), int trace(), int fault(), int many(int)""";

    public static void main(String[] args) throws Exception {
        constants();
        face();
        membersThatAreNotPublic();
        String text = Files.readString(Path.of("src/main/java/PondRings.java"));
        source(text);
        headings(text);
        nothingIsMadeByCalls();
        due.end();
    }

    /** The calls in the document's order, each group under the heading that the document tells. */
    private static void headings(String text) {
        String[] heads = {"---- 1 the pond", "---- 2 stones", "---- 3 wishes", "---- 4 reeds, digging",
            "---- 5 sheets, parts"};
        String[] firsts = {"pond", "stone", "wish", "reed", "sheet"};
        int at = 0;
        int group = 0;
        for (String told : FACE.split(",\\s+")) {
            String name = told.substring(told.indexOf(' ') + 1, told.indexOf('('));
            if (group < firsts.length && name.equals(firsts[group])) {
                due.says(0, heads[group]);
                yes(heads[group] + " ahead of " + name, text.indexOf(heads[group], at) > at);
                at = Math.max(at, text.indexOf(heads[group], at));
                group++;
            }
            int next = text.indexOf(" " + name + "(", at);
            yes(name + " follows under " + heads[group - 1], next > at);
            at = Math.max(at, next);
        }
        due.is("groups of calls", group, heads.length);
    }

    private static void yes(String what, boolean is) {
        due.is(what, is ? 1 : 0, 1);
    }

    private static void constants() throws Exception {
        due.is("UNKNOWN", PondRings.UNKNOWN, -1);
        due.is("OUTSIDE", PondRings.OUTSIDE, -2);
        due.is("STATE", PondRings.STATE, -3);
        due.is("FULL", PondRings.FULL, -4);
        due.is("NONE", PondRings.NONE, -9);
        due.is("LOST", PondRings.LOST, Long.MIN_VALUE);
        List<String> names = Arrays.asList("UNKNOWN", "OUTSIDE", "STATE", "FULL", "NONE", "LOST");
        for (Field f : PondRings.class.getDeclaredFields()) {
            int m = f.getModifiers();
            boolean open = Modifier.isPublic(m) && Modifier.isStatic(m) && Modifier.isFinal(m);
            yes("field " + f.getName(), names.contains(f.getName()) ? open : Modifier.isPrivate(m));
        }
    }

    private static void face() {
        int m = PondRings.class.getModifiers();
        yes("the class is public and final", Modifier.isPublic(m) && Modifier.isFinal(m));
        Set<String> want = new TreeSet<>(Arrays.asList(FACE.split(",\\s+")));
        Set<String> got = new TreeSet<>();
        for (Method method : PondRings.class.getDeclaredMethods()) {
            if (!Modifier.isPrivate(method.getModifiers())) {
                got.add(told(method));
                yes(told(method) + " is public, not static",
                    Modifier.isPublic(method.getModifiers()) && !Modifier.isStatic(method.getModifiers()));
            }
        }
        for (String method : want) {
            yes("there is " + method, got.contains(method));
        }
        due.is("how many methods", got.size(), want.size());
        Constructor<?>[] all = PondRings.class.getDeclaredConstructors();
        yes("one public constructor",
            all.length == 1 && Modifier.isPublic(all[0].getModifiers()) && all[0].getParameterCount() == 0);
    }

    private static String told(Method method) {
        List<String> types = new ArrayList<>();
        for (Class<?> type : method.getParameterTypes()) {
            types.add(type.getName());
        }
        return method.getReturnType().getName() + " " + method.getName() + "(" + String.join(" ", types) + ")";
    }

    private static void membersThatAreNotPublic() {
        Set<String> open = new TreeSet<>();
        for (Method method : PondRings.class.getDeclaredMethods()) {
            if (Modifier.isPublic(method.getModifiers())) {
                open.add(method.getName());
            }
        }
        List<Class<?>> classes = new ArrayList<>(Arrays.asList(PondRings.class.getDeclaredClasses()));
        yes("at most twelve classes", classes.size() < 12);
        for (Class<?> inside : classes) {
            yes(inside + " is static", Modifier.isStatic(inside.getModifiers()));
        }
        classes.add(PondRings.class);
        for (Class<?> c : classes) {
            for (Method method : c.getDeclaredMethods()) {
                boolean isOpen = c == PondRings.class && Modifier.isPublic(method.getModifiers());
                yes(c + "." + method.getName() + " has a name of its own", isOpen || !open.contains(method.getName()));
                yes(c + "." + method.getName() + " takes at most seven", method.getParameterCount() <= 7);
            }
            int fields = 0;
            for (Field f : c.getDeclaredFields()) {
                boolean isStatic = Modifier.isStatic(f.getModifiers());
                yes(c + "." + f.getName() + ": static is final", !isStatic || Modifier.isFinal(f.getModifiers()));
                fields += isStatic ? 0 : 1;
            }
            yes(c + " has at most twenty fields", fields <= 20);
        }
    }

    private static void source(String text) {
        String code = text.replaceAll("(?s)/\\*.*?\\*/", "").replaceAll("//[^\n]*", "");
        for (String word : new String[] {"throw", "try", "catch", "finally", "synchronized", "assert", "protected",
            "package", "var", "goto", "Object", "Exception"}) {
            yes("no word " + word, !Pattern.compile("\\b" + word + "\\b").matcher(code).find());
        }
        yes("no lambda", !code.contains("->"));
        yes("no method reference", !code.contains("::"));
        yes("no Exact", !code.contains("Exact("));
        yes("signs 1 to 127", text.chars().allMatch(c -> c > 0 && c < 128));
        Matcher imports = Pattern.compile("import ([^;]*);").matcher(code);
        while (imports.find()) {
            yes("import " + imports.group(1), imports.group(1).matches("java\\.util\\.(Arrays|ArrayList|List)"));
        }
        methodsAreShort(code);
    }

    private static void methodsAreShort(String code) {
        int length = 0;
        for (String line : code.split("\n")) {
            boolean begins = line.matches(" {4,8}(public|private|static|final|[a-z]+ )?.*\\) \\{") && !line.contains(" if ");
            length = begins ? 0 : length + 1;
            if (line.matches(" {4}(    )?\\}")) {
                yes("a method of " + length + " lines", length <= 60);
                length = 0;
            }
        }
    }

    /** The room is one for all calls: after the constructor nothing is made any more. */
    private static void nothingIsMadeByCalls() {
        PondRings x = Ponds.with(Ponds.ISLANDS);
        java.lang.management.ThreadMXBean plain = java.lang.management.ManagementFactory.getThreadMXBean();
        if (!(plain instanceof com.sun.management.ThreadMXBean bean) || !bean.isThreadAllocatedMemorySupported()) {
            return;
        }
        useAll(x);
        long before = bean.getCurrentThreadAllocatedBytes();
        long again = bean.getCurrentThreadAllocatedBytes() - before;
        before = bean.getCurrentThreadAllocatedBytes();
        useAll(x);
        long made = bean.getCurrentThreadAllocatedBytes() - before - again;
        yes("calls make nothing: " + made + " bytes", made < 512);
    }

    private static void useAll(PondRings x) {
        int sum = 0;
        for (int i = 0; i < 7; i++) {
            sum += x.stone(i % 3, i * 4, i) + x.wish(i % 3, 34 - i) + x.reed(i, 20 + i);
        }
        for (int i = -1; i < 7; i++) {
            sum += x.soonest(i) + x.alone(i) + x.fits(0, i) + x.dig(i) + x.tell(i) + x.make(i) + x.sunset(i + 10);
            sum += x.first(i) + x.apart(i, i + 1) + x.meet(i, i + 1, 0) + (int) x.ring(i, 5) + x.as(i, 1);
        }
        sum += x.sheet(1, 1, 20) + x.copy(1, 0, 1, 2, 3) + (int) x.cell(1, 0, 1) + x.atOnce() + x.lose(1);
        sum += x.back(7) + x.drop(6) + x.pull(6) + x.pond(0, 0, 0, 43);
        if (sum == 0) {
            System.out.print("");
        }
    }
}
