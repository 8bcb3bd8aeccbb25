import java.lang.reflect.Array;
import java.lang.reflect.Constructor;
import java.lang.reflect.Executable;
import java.lang.reflect.Field;
import java.lang.reflect.Method;
import java.lang.reflect.Modifier;
import java.nio.file.Files;
import java.nio.file.Path;
import java.util.ArrayDeque;
import java.util.ArrayList;
import java.util.Arrays;
import java.util.Collections;
import java.util.IdentityHashMap;
import java.util.List;
import java.util.Set;
import java.util.TreeSet;
import java.util.regex.Pattern;

/** The class's face as the document has it, the language rules that can be seen, and the room it takes. */
public final class FaceTest {
    private static final String DOCUMENT = "../shared/DOC.md";
    private static final String SOURCE = "src/main/java/FigurePress.java";
    private static final int MOST_ELEMENTS = 6000;

    private static int wrong = 0;

    public static void main(String[] args) throws Exception {
        face(writtenFace(Files.readAllLines(Path.of(DOCUMENT))));
        classesInside();
        source(Files.readAllLines(Path.of(SOURCE)));
        room();
        System.out.println(wrong == 0 ? "the face is as due" : wrong + " things are wrong");
        if (wrong != 0) {
            System.exit(1);
        }
    }

    /** The calls that the document's face has, without the names of what they take. */
    private static Set<String> writtenFace(List<String> document) {
        Set<String> calls = new TreeSet<>();
        Set<String> promised = new TreeSet<>();
        for (String line : document) {
            if (line.matches(" {4}public \\w+ \\w+\\(.*;")) {
                calls.add(line.replaceAll("^ *public |;$", ""));
            }
            if (line.matches("`\\w+ \\w+\\(.*`:.*")) {
                promised.add(line.substring(1, line.indexOf('`', 1)));
            }
        }
        dueTrue("the document has a face", calls.size() == 19);
        dueTrue("the promises are of " + calls + ", but were of " + promised, calls.equals(promised));
        Set<String> bare = new TreeSet<>();
        for (String call : calls) {
            bare.add(call.replaceAll("(int|long|boolean) \\w+([,)])", "$1$2"));
        }
        return bare;
    }

    private static void face(Set<String> want) {
        Set<String> got = new TreeSet<>();
        Set<String> names = new TreeSet<>();
        for (Method method : FigurePress.class.getDeclaredMethods()) {
            if (!Modifier.isPrivate(method.getModifiers())) {
                dueTrue(method + " is public, and not static", (method.getModifiers() & ~Modifier.PUBLIC) == 0);
                got.add(shown(method));
                names.add(method.getName());
            }
        }
        dueTrue("the face is " + want + ", but was " + got, want.equals(got));
        dueTrue("public final", FigurePress.class.getModifiers() == (Modifier.PUBLIC | Modifier.FINAL));
        Constructor<?>[] constructors = FigurePress.class.getDeclaredConstructors();
        dueTrue("one public constructor", constructors.length == 1 && constructors[0].getModifiers() == Modifier.PUBLIC
            && constructors[0].getParameterCount() == 0);
        for (Field field : FigurePress.class.getDeclaredFields()) {
            dueTrue(field + " is private", Modifier.isPrivate(field.getModifiers()));
        }
        for (Class<?> kind : allClasses()) {
            for (Method method : kind.getDeclaredMethods()) {
                boolean own = kind != FigurePress.class || Modifier.isPrivate(method.getModifiers());
                dueTrue(method + " bears a public name", !own || !names.contains(method.getName()));
            }
        }
    }

    private static String shown(Method method) {
        StringBuilder text = new StringBuilder();
        text.append(method.getReturnType().getSimpleName()).append(' ').append(method.getName()).append('(');
        String comma = "";
        for (Class<?> kind : method.getParameterTypes()) {
            text.append(comma).append(kind.getSimpleName());
            comma = ", ";
        }
        text.append(')');
        comma = " throws ";
        for (Class<?> kind : method.getExceptionTypes()) {
            text.append(comma).append(kind.getSimpleName());
            comma = ", ";
        }
        return text.toString();
    }

    private static List<Class<?>> allClasses() {
        List<Class<?>> all = new ArrayList<>();
        all.add(FigurePress.class);
        all.addAll(Arrays.asList(FigurePress.class.getDeclaredClasses()));
        return all;
    }

    private static void classesInside() {
        dueTrue("at most twelve classes", allClasses().size() <= 12);
        for (Class<?> kind : allClasses()) {
            boolean inside = kind != FigurePress.class;
            dueTrue(kind + " is static and private", !inside || Modifier.isStatic(kind.getModifiers())
                && Modifier.isPrivate(kind.getModifiers()));
            int own = 0;
            for (Field field : kind.getDeclaredFields()) {
                boolean isStatic = Modifier.isStatic(field.getModifiers());
                own += isStatic ? 0 : 1;
                dueTrue(field + " is final if it is static", !isStatic || Modifier.isFinal(field.getModifiers()));
            }
            dueTrue(kind + " has at most twenty fields", own <= 20);
            List<Executable> all = new ArrayList<>(Arrays.asList(kind.getDeclaredMethods()));
            all.addAll(Arrays.asList(kind.getDeclaredConstructors()));
            for (Executable each : all) {
                dueTrue(each + " takes at most seven", each.getParameterCount() <= 7);
            }
        }
    }

    /** Words that the language rules leave out, rows made elsewhere than with the object, and long methods. */
    private static void source(List<String> lines) {
        Pattern barred = Pattern.compile("\\b(import|package|try|catch|finally|double|float|synchronized|assert|System|Object"
            + "|Random|Thread|equals|hashCode|toString|BigInteger|BigDecimal|StrictMath|native|volatile|transient)\\b|->|::|Exact\\(");
        boolean making = false;
        int begun = 0;
        for (int i = 0; i < lines.size(); i++) {
            String line = lines.get(i);
            String code = line.replaceAll("\"[^\"]*\"", "\"\"").replaceAll("//.*|^ *(/\\*\\*|\\*).*", "");
            dueTrue("line " + (i + 1) + ": " + line, !barred.matcher(code).find());
            dueTrue("line " + (i + 1) + " has a sign beyond 127", line.chars().allMatch(c -> c < 128));
            if (code.endsWith("{") && code.contains("FigurePress()")) {
                making = true;
            }
            boolean fine = making || code.contains("throw new ") || code.trim().matches("(private )?final .*");
            dueTrue("line " + (i + 1) + " makes something: " + line, fine || !code.contains("new "));
            boolean head = code.matches(" {4,8}[A-Za-z].*[)].*\\{");
            if (head) {
                begun = i;
            }
            if (code.matches(" {4,8}\\}")) {
                making = false;
                dueTrue("a method of more than sixty lines ends at " + (i + 1), begun == 0 || i - begun <= 60);
                begun = 0;
            }
        }
    }

    /** Everything is made with the object, so that a run of calls takes no more room than that. */
    private static void room() throws Exception {
        FigurePress x = new FigurePress();
        int before = elements(x);
        dueTrue("an object takes " + before + " fields and elements", before <= MOST_ELEMENTS);
        for (int i = 0; i < 60; i++) {
            x.set(i & 15, i & 1, 0x3FF123456789ABCDL * (i + 1));
            x.feed(0x35652E3534333231L, 6);
            x.read(3, 1, i & 3);
            x.fused(i & 15, 3, 5, i & 3);
            x.over(3, i & 15, 6, i & 3);
            x.write(i & 15, i % 6, 7, i & 3);
        }
        dueTrue("calls take no room", elements(x) == before);
    }

    private static int elements(FigurePress x) throws Exception {
        int count = 0;
        Set<Object> seen = Collections.newSetFromMap(new IdentityHashMap<>());
        ArrayDeque<Object> open = new ArrayDeque<>();
        open.add(x);
        while (!open.isEmpty()) {
            Object next = open.poll();
            if (!seen.add(next)) {
                continue;
            }
            if (next.getClass().isArray()) {
                count += Array.getLength(next);
                continue;
            }
            for (Field field : next.getClass().getDeclaredFields()) {
                if (Modifier.isStatic(field.getModifiers())) {
                    continue;
                }
                count++;
                field.setAccessible(true);
                if (!field.getType().isPrimitive() && field.get(next) != null) {
                    open.add(field.get(next));
                }
            }
        }
        return count;
    }

    private static void dueTrue(String what, boolean is) {
        if (!is) {
            wrong++;
            System.out.println("not so: " + what);
        }
    }
}
