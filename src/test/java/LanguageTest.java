import java.io.IOException;
import java.lang.management.ManagementFactory;
import java.lang.reflect.Constructor;
import java.lang.reflect.Field;
import java.lang.reflect.Method;
import java.lang.reflect.Modifier;
import java.nio.file.Files;
import java.nio.file.Path;
import java.util.ArrayList;
import java.util.List;
import java.util.Map;
import java.util.Set;
import java.util.TreeSet;
import java.util.regex.Matcher;
import java.util.regex.Pattern;

/** The face of the document, and those rules of LANGUAGE.md that a test can look at. */
public final class LanguageTest {
    private static final Path SOURCE = Path.of("src/main/java/ToldChances.java");

    private static final String[] FACE = {
        "int UNKNOWN", "int OUTSIDE", "int STATE", "int FULL", "int NONE", "long LOST", "new()",
        "int tell(int,int,int)", "int drop(int,int)", "int yes(int)", "int no(int)", "int open(int)",
        "int weigh(int,int)", "int told(int,int)", "int came(int)", "int key(int)", "int wipe()", "int line()",
        "int rule()", "int miss(int,int)", "long score(int,int)", "int rank(int)", "int lure(int)", "int honest()",
        "int cut(int)", "int bin(int,int,int)", "long split(int,int,int)", "long joined(int,int,int)",
        "long area(int,int)", "int pools(int)", "int pool(int,int,int)", "long flat(int,int)",
        "int better(int,int,int)", "long luck(int,int,int)", "int report(int,int)", "int many(int)",
    };

    private static final String[] FORBIDDEN = {
        "\\bthrow\\b", "\\btry\\b", "\\bcatch\\b", "\\bsynchronized\\b", "\\bassert\\b", "\\bimport\\b",
        "\\bpackage\\b", "\\bprotected\\b", "->", "::", "Exact\\b", "\\.ordinal\\(", "\\.name\\(", "\\bhashCode\\b",
        "\\btoString\\b", "\\bSystem\\.(?!arraycopy)", "\\bThread\\b", "\\bObject\\b", "\\bvar\\b", "\\bdouble\\b",
        "\\bfloat\\b", "\\bpublic\\s+static\\s+(?!final\\b)", "static\\s*\\{", "\"\\s*\\+", "\\+\\s*\"",
    };

    /** Rule 4, as javac writes it; the last two are what every constructor and every enum calls by itself. */
    private static final String[] LIBRARY = {
        "java/lang/String\\.(length|charAt|isEmpty|equals|substring|toCharArray)\\(.*",
        "java/lang/String\\.indexOf\\(I\\)I", "java/lang/String\\.<init>\\(\\[C\\)V",
        "java/lang/StringBuilder\\.(<init>|charAt|setCharAt|setLength|deleteCharAt|reverse|length|toString)\\(.*",
        "java/lang/StringBuilder\\.append\\((C|I|Ljava/lang/String;)\\).*",
        "java/util/(ArrayList|List)\\.(<init>|add|get|set|remove|size|isEmpty|clear|iterator|of)\\(.*",
        "java/lang/(Integer|Long|Math)\\.[a-zA-Z]+(?<!Exact)\\([IJ]+\\)[IJZ]",
        "java/lang/System\\.arraycopy\\(.*", "java/util/Arrays\\.(copyOf|copyOfRange|fill)\\(.*",
        "\\[.*\\.clone\\(\\).*", "java/lang/Object\\.<init>\\(\\)V", "java/lang/Enum\\.(<init>|valueOf)\\(.*",
    };

    private static final int MOST_DEEP = 8;
    private static final int MOST_FIELDS = 20;

    private static int wrong = 0;

    private static void demand(boolean holds, String what) {
        if (!holds) {
            wrong++;
            System.out.println(what);
        }
    }

    private static String typesOf(Class<?>[] types) {
        List<String> names = new ArrayList<>();
        for (Class<?> type : types) {
            names.add(type.getSimpleName());
        }
        return "(" + String.join(",", names) + ")";
    }

    private static void lookAtFace() {
        Set<String> found = new TreeSet<>();
        Set<String> publicNames = new TreeSet<>();
        for (Field field : ToldChances.class.getDeclaredFields()) {
            int modifiers = field.getModifiers();
            if (Modifier.isPublic(modifiers)) {
                demand(Modifier.isStatic(modifiers) && Modifier.isFinal(modifiers), "not a constant: " + field);
                found.add(field.getType().getSimpleName() + " " + field.getName());
            } else {
                demand(Modifier.isPrivate(modifiers), "not private: " + field);
                demand(!Modifier.isStatic(modifiers) || Modifier.isFinal(modifiers), "not final: " + field);
            }
        }
        for (Constructor<?> constructor : ToldChances.class.getDeclaredConstructors()) {
            demand(Modifier.isPublic(constructor.getModifiers()), "not public: " + constructor);
            found.add("new" + typesOf(constructor.getParameterTypes()));
        }
        for (Method method : ToldChances.class.getDeclaredMethods()) {
            if (!Modifier.isPrivate(method.getModifiers())) {
                demand(Modifier.isPublic(method.getModifiers()), "not public: " + method);
                publicNames.add(method.getName());
                found.add(method.getReturnType().getSimpleName() + " " + method.getName()
                        + typesOf(method.getParameterTypes()));
            }
        }
        demand(found.equals(new TreeSet<>(List.of(FACE))), "the face is " + found);
        demand(Modifier.isFinal(ToldChances.class.getModifiers()), "the class is not final");
        demand(ToldChances.LOST == Long.MIN_VALUE && ToldChances.STATE == -3, "a constant is not as told");
        lookAtInnerNames(publicNames);
    }

    private static void lookAtInnerNames(Set<String> publicNames) {
        Class<?>[] inner = ToldChances.class.getDeclaredClasses();
        demand(inner.length <= 12, "too many classes: " + inner.length);
        for (Method method : ToldChances.class.getDeclaredMethods()) {
            demand(Modifier.isPublic(method.getModifiers()) || !publicNames.contains(method.getName()),
                    "a private method has the name of a public one: " + method);
        }
        for (Class<?> type : inner) {
            demand(Modifier.isStatic(type.getModifiers()) && !Modifier.isPublic(type.getModifiers()),
                    "not a hidden static class: " + type);
            for (Method method : type.getDeclaredMethods()) {
                demand(!publicNames.contains(method.getName()), "has the name of a public one: " + method);
                demand(method.getParameterCount() <= 7, "too many parameters: " + method);
            }
        }
    }

    private static void lookAtSource() throws IOException {
        String text = Files.readString(SOURCE);
        String bare = text.replaceAll("(?s)/\\*.*?\\*/", "").replaceAll("//[^\n]*", "");
        for (String pattern : FORBIDDEN) {
            Matcher matcher = Pattern.compile(pattern).matcher(bare);
            demand(!matcher.find(), "the source has what the language rules out: " + pattern);
        }
        for (int i = 0; i < text.length(); i++) {
            demand(text.charAt(i) < 128, "the source has the sign " + (int) text.charAt(i));
        }
        lookAtMethodLengths(text.split("\n"));
    }

    private static void lookAtMethodLengths(String[] lines) {
        for (int i = 0; i < lines.length; i++) {
            String indent = lines[i].replaceAll("\\S.*", "");
            if (lines[i].endsWith(") {") && (indent.length() == 4 || indent.length() == 8)) {
                int end = i;
                while (end < lines.length && !lines[end].equals(indent + "}")) {
                    end++;
                }
                demand(end - i < 60, "a long method: " + lines[i]);
            }
        }
    }

    // ---- what javac made

    private static List<Class<?>> allClasses() {
        List<Class<?>> all = new ArrayList<>(List.of(ToldChances.class));
        all.addAll(List.of(ToldChances.class.getDeclaredClasses()));
        return all;
    }

    private static void lookAtFields() {
        for (Class<?> type : allClasses()) {
            int own = 0;
            for (Field field : type.getDeclaredFields()) {
                if (Modifier.isStatic(field.getModifiers())) {
                    demand(Modifier.isFinal(field.getModifiers()) && mayBeStatic(field.getType()),
                            "a static field that is no constant: " + field);
                } else {
                    own++;
                    demand(!type.isEnum() || mayBeInEnum(field.getType()), "a field that no enum may have: " + field);
                }
            }
            demand(own <= MOST_FIELDS, "too many fields: " + type + " has " + own);
        }
    }

    private static boolean mayBeInEnum(Class<?> type) {
        return List.of(int.class, long.class, boolean.class, String.class).contains(type);
    }

    private static boolean mayBeStatic(Class<?> type) {
        Class<?> element = type.isArray() ? type.getComponentType() : type;
        return mayBeInEnum(type) || type == char.class || element.isEnum()
                || type.isArray() && List.of(int.class, long.class, char.class, byte.class).contains(element);
    }

    private static void lookAtCode() throws IOException {
        List<ClassFile> files = new ArrayList<>();
        for (Class<?> type : allClasses()) {
            files.add(new ClassFile(type));
        }
        Map<String, ClassFile.Body> all = ClassFile.allBodies(files);
        demand(all.size() > 90, "so few methods were read that the test itself must be wrong: " + all.size());
        for (ClassFile file : files) {
            demand(!file.hasLambdas, "a lambda, a method reference or texts joined by + in " + file.name);
        }
        for (Map.Entry<String, ClassFile.Body> entry : all.entrySet()) {
            lookAtBody(entry.getKey(), entry.getValue(), all);
        }
    }

    private static void lookAtBody(String name, ClassFile.Body body, Map<String, ClassFile.Body> all) {
        demand(!body.throwsOrCatches, "throws or catches: " + name);
        boolean isBeginning = name.contains(".<init>(") || name.contains(".<clinit>(") || name.contains(".$values(");
        demand(!body.makes || isBeginning, "makes an object outside a constructor: " + name);
        for (String call : body.calls) {
            demand(all.containsKey(call) || isLibrary(call), name + " calls what is not in the library: " + call);
        }
        List<String> chain = ClassFile.longestChain(all, name, List.of());
        demand(chain.size() <= MOST_DEEP, "calls go " + chain.size() + " deep: " + chain);
    }

    private static boolean isLibrary(String call) {
        for (String pattern : LIBRARY) {
            if (call.matches(pattern)) {
                return true;
            }
        }
        return false;
    }

    /** No call may make objects: all calls of a run share one room that is never swept. */
    private static void lookAtRoom() {
        com.sun.management.ThreadMXBean bean =
                (com.sun.management.ThreadMXBean) ManagementFactory.getThreadMXBean();
        ToldChances x = new ToldChances();
        long all = useAll(x);
        long before = bean.getCurrentThreadAllocatedBytes();
        for (int i = 0; i < 200; i++) {
            all += useAll(x);
        }
        long made = bean.getCurrentThreadAllocatedBytes() - before;
        demand(made < 2000, "200 rounds of all calls made " + made + " bytes (their sum is " + all + ")");
    }

    private static final int[] LINE = {'t', 'e', 'l', 'l', ' ', '1', ' ', '3', ' ', '5', '0'};
    private static final int[] WORD = {'c', 'u', 'b', 'e'};

    private static long useAll(ToldChances x) {
        long sum = 0;
        for (int e = 0; e < 40; e++) {
            sum += x.tell(0, e, 2 * e) + (e % 3 == 0 ? x.yes(e) : x.no(e));
        }
        for (int code : LINE) {
            sum += x.key(code);
        }
        sum += x.line() + x.line() + x.drop(3, 3) + x.open(7) + x.weigh(2, 2) + x.told(4, 1) + x.came(1) + x.wipe();
        for (int code : WORD) {
            sum += x.key(code);
        }
        sum += x.rule() + x.miss(3, 1) + x.rank(1) + x.lure(30) + x.honest() + x.cut(30) + x.cut(60) + x.many(5);
        for (int t = 0; t <= 4; t++) {
            sum += x.score(t, 0) + x.bin(t, 0, 2) + x.split(t, 5, 0) + x.joined(t, 0, 0) + x.area(t, 0) + x.pools(t)
                    + x.pool(t, 0, 1) + x.flat(t, 1) + x.better(t, 0, 1) + x.luck(t, 1, 0) + x.report(t, 12);
        }
        return sum;
    }

    public static void main(String[] args) throws IOException {
        lookAtFace();
        lookAtSource();
        lookAtFields();
        lookAtCode();
        lookAtRoom();
        System.out.println(wrong == 0 ? "the language is kept" : wrong + " rules are broken");
        if (wrong != 0) {
            System.exit(1);
        }
    }
}
