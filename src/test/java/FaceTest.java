import java.lang.management.ManagementFactory;
import java.lang.reflect.Constructor;
import java.lang.reflect.Field;
import java.lang.reflect.Method;
import java.lang.reflect.Modifier;
import java.nio.charset.StandardCharsets;
import java.nio.file.Files;
import java.nio.file.Path;
import java.util.ArrayList;
import java.util.Arrays;
import java.util.HashSet;
import java.util.List;
import java.util.Set;
import java.util.TreeSet;
import java.util.regex.Matcher;
import java.util.regex.Pattern;

/** The public face, what a look at the source can tell of LANGUAGE.md, and how much the calls make. */
public final class FaceTest {
    private static final Due due = new Due("FaceTest");

    private static final Set<Class<?>> CONSTANTS =
        Set.of(int.class, long.class, boolean.class, char.class, String.class, int[].class, long[].class, char[].class,
            byte[].class);

    private static final String[] FACE = {
        "int feed(int,int,int,int,int)", "boolean end(int)", "int house()", "int fault(int)", "int has(int)",
        "int letter(int,int,int)", "int film(int,int)", "int person(int,int)", "int taste(int,int)", "int seen(int,int)",
        "int suggest(int)", "int worth(int,int)", "int kept(int,int)", "long pleased(int,int)", "int refused(int,int)",
        "long pressing(int,int)", "int rest(int)", "int gone(int,int)", "int sow(int,int)", "int who(int,int,int)",
        "int sofa(int,int)", "int share(int)", "int tell()", "int pressed(int)", "boolean press(int,int)",
        "long show(int,int)", "int hours(int)", "int chance(int)", "boolean undo()", "boolean seed(int)", "long ask(int)",
        "int image()", "int octet(int)", "boolean on()", "int status(int)"};

    public static void main(String[] args) throws Exception {
        face();
        source(Path.of(args.length > 0 ? args[0] : "src/main/java/FourOnOne.java"));
        makes();
        due.end();
    }

    private static void face() {
        Class<FourOnOne> it = FourOnOne.class;
        due.is("public and final", it.getModifiers(), Modifier.PUBLIC | Modifier.FINAL);
        Set<String> methods = new TreeSet<>();
        Set<String> names = new HashSet<>();
        for (Method method : it.getDeclaredMethods()) {
            if (Modifier.isPrivate(method.getModifiers())) {
                continue;
            }
            due.is("public: " + method, method.getModifiers(), Modifier.PUBLIC);
            StringBuilder s = new StringBuilder(method.getReturnType() + " " + method.getName() + "(");
            for (Class<?> type : method.getParameterTypes()) {
                s.append(s.charAt(s.length() - 1) == '(' ? "" : ",").append(type);
            }
            methods.add(s.append(")").toString());
            names.add(method.getName());
        }
        due.is("methods " + methods, methods.equals(new TreeSet<>(Arrays.asList(FACE))), true);
        for (Field field : it.getDeclaredFields()) {
            boolean constant = field.getName().equals("NONE") || field.getName().equals("NOTHING");
            due.is("field " + field, Modifier.isPublic(field.getModifiers()), constant);
            due.is("private " + field, Modifier.isPrivate(field.getModifiers()), !constant);
        }
        Constructor<?>[] constructors = it.getDeclaredConstructors();
        due.is("one constructor", constructors.length, 1);
        due.is("for all", constructors[0].getModifiers() * 10 + constructors[0].getParameterCount(), 10);
        for (Class<?> inside : it.getDeclaredClasses()) {
            due.is("static: " + inside, Modifier.isStatic(inside.getModifiers()), true);
            due.is("not public: " + inside, inside.getModifiers() & (Modifier.PUBLIC | Modifier.PROTECTED), 0);
            for (Method method : inside.getDeclaredMethods()) {
                due.is("a name of the face: " + method, names.contains(method.getName()), false);
            }
        }
        due.is("classes", it.getDeclaredClasses().length <= 11, true);
        fields(it);
        for (Class<?> inside : it.getDeclaredClasses()) {
            fields(inside);
        }
        for (Method method : it.getDeclaredMethods()) {
            due.is("a name of the face: " + method,
                Modifier.isPrivate(method.getModifiers()) && names.contains(method.getName()), false);
            due.is("parameters: " + method, method.getParameterCount() <= 7, true);
        }
    }

    /** Rules 3, 5 and 11: what fields may be, static ones, and how many of the others. */
    private static void fields(Class<?> it) {
        int own = 0;
        for (Field field : it.getDeclaredFields()) {
            Class<?> type = field.getType();
            if (Modifier.isStatic(field.getModifiers())) {
                due.is("final: " + field, Modifier.isFinal(field.getModifiers()), true);
                due.is("a constant's type: " + field, CONSTANTS.contains(type), true);
                continue;
            }
            own++;
            Class<?> row = type.isArray() ? type.getComponentType() : type;
            Class<?> one = row.isArray() ? row.getComponentType() : row;
            boolean ours = one == FourOnOne.class || one.getDeclaringClass() == FourOnOne.class;
            due.is("a field's type: " + field, one.isPrimitive() || (ours || type == String.class) && !row.isArray(), true);
        }
        due.is("fields of " + it + ": " + own, own <= 20, true);
    }

    private static void source(Path path) throws Exception {
        String source = Files.readString(path, StandardCharsets.US_ASCII);
        String code = source.replaceAll("(?s)/\\*.*?\\*/", "").replaceAll("//[^\n]*", "")
            .replaceAll("\"[^\"\n]*\"", "\"\"").replaceAll("'[^']'", "'c'");
        String[] never = {"\\bthrows?\\b", "\\btry\\b", "\\bcatch\\b", "\\bfinally\\b", "\\bsynchronized\\b",
            "\\bassert\\b", "\\bimport\\b", "\\bpackage\\b", "->", "::", "\\bequals\\b", "\\bhashCode\\b", "\\btoString\\b",
            "\\bvar\\b", "\\bdouble\\b", "\\bfloat\\b", "\\bObject\\b", "\\bSystem\\.(?!arraycopy\\b)", "Exact\\b",
            "\\bprotected\\b", "\\bvolatile\\b", "\\btransient\\b", "\\bnative\\b", "@", "\"\"\\s*\\+", "\\+\\s*\"\"",
            "\\bMath\\.(?!max\\b|min\\b|floorDiv\\b|floorMod\\b|abs\\b)", "\\bInteger\\.(?!bitCount\\b|compare\\b)",
            "\\bLong\\.", "\\bThread\\b", "\\brandom\\b", "\\bstatic\\s*\\{"};
        for (String word : never) {
            Matcher matcher = Pattern.compile(word).matcher(code);
            due.is("the source has " + word, matcher.find(), false);
        }
        methodsAreShort(source);
    }

    /** By the indents that the file keeps: a method begins and ends with 4 or 8 blanks. */
    private static void methodsAreShort(String source) {
        String[] lines = source.split("\n");
        List<String> longOnes = new ArrayList<>();
        for (int k = 0; k < lines.length; k++) {
            Matcher head = Pattern.compile("^( {4}| {8})[a-zA-Z].*\\) \\{$").matcher(lines[k]);
            if (head.matches()) {
                int end = k;
                while (!lines[end].equals(head.group(1) + "}")) {
                    end++;
                }
                if (end - k > 60) {
                    longOnes.add(lines[k].trim());
                }
            }
        }
        due.is("long methods " + longOnes, longOnes.size(), 0);
    }

    private static long made() {
        java.lang.management.ThreadMXBean bean = ManagementFactory.getThreadMXBean();
        if (bean instanceof com.sun.management.ThreadMXBean ours && ours.isThreadAllocatedMemorySupported()) {
            return ours.getThreadAllocatedBytes(Thread.currentThread().getId());
        }
        return 0;
    }

    /** All calls of a run live in one room: what the calls make must be nothing, whatever they are. */
    private static void makes() {
        long first = made();
        FourOnOne x = new FourOnOne();
        due.is("an object is small: " + (made() - first), made() - first < 200000, true);
        String house = "kind a;kind b;kind c;kind d;kind e;kind f;film g parts 9 is a 1 b 2 c 3 d 4 e 5 f 6;"
            + "film h parts 9 is f 9;film i parts 9 is a 9;film j parts 9 is b 1;film k parts 9 is c 9;"
            + "person p at 0 to 23;person q at 0 to 23;person r at 0 to 23;person s at 0 to 23;person t at 0 to 23;"
            + "likes p a 9;likes q b 9;learns min(weight,9)+taste/9;fades max(taste-1,0);may not [seen>8 or score<0];strange 50;";
        Due.house(x, house);
        all(x);
        long before = made();
        for (int k = 0; k < 10; k++) {
            all(x);
        }
        long calls = made() - before;
        due.is("10 of each call make " + calls + " bytes", calls < 20000, true);
        int houses = 0;
        x = new FourOnOne();
        before = made();
        for (int k = 0; k < 60; k++) {
            x.feed(0x6b696e64, 0x20613b6b, 0x696e6420, 0x623b6d61, 0x7920616c);
            x.feed(0x6c3b6c65, 0x61726e73, 0x20746173, 0x74652b31, 0x3b202020);
            houses += x.house();
            x.feed(0x206f6674, 0x656e2061, 0x6c6c2020, 0x20202020, 0x20202020);
            x.ask(0);
        }
        calls = made() - before;
        due.is("60 houses make " + calls + " bytes", calls < 20000, true);
        due.is("of four statements each", houses, 240);
    }

    private static void all(FourOnOne x) {
        x.pleased(0, 72);
        x.refused(4, 72);
        x.pressing(0, 72);
        x.rest(48);
        x.gone(0, 0);
        x.sow(0, 72);
        x.who(0, 0, 0);
        x.sofa(31, 2);
        x.share(0);
        x.feed(0x00000017, 0, 0, 0, 0);
        x.end(3);
        x.tell();
        x.pressed(0);
        x.press(0, 1);
        x.show(0, 0);
        x.hours(10);
        x.chance(10);
        x.undo();
        x.seed(9);
        x.image();
        x.on();
        x.kept(0, 0);
        x.has(7);
        x.suggest(0);
        x.worth(0, 0);
    }
}
