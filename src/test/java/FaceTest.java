import java.io.IOException;
import java.lang.reflect.Constructor;
import java.lang.reflect.Field;
import java.lang.reflect.Method;
import java.lang.reflect.Modifier;
import java.nio.file.Files;
import java.nio.file.Path;
import java.util.ArrayList;
import java.util.List;
import java.util.Set;
import java.util.TreeSet;
import java.util.regex.Matcher;
import java.util.regex.Pattern;

/** The public face as the document has it, and those rules of LANGUAGE.md that can be seen from outside. */
public final class FaceTest {
    private static final Check CHECK = new Check("FaceTest");
    private static final String[] FACE = {
        "int feed(int,int,int,int,int)", "int room(int)", "int fault()", "int count(int)", "int book(int,int)",
        "int reader(int,int)", "int loan(int,int,int,int)", "int lent(int,int)", "int drop(int,int,int)",
        "int slip(int,int)", "int read(int,int,int)", "boolean has(int,int,int)", "int ahead(int,int,int)",
        "int look(int,int,int,int)", "int ways(int)", "int whose(int,int)", "int ends(int,int,int)",
        "int moved(int)", "int wish(int,int,int)", "int waiting()", "int turn(int)", "boolean tale(int,int,int)",
        "int settle(int,int)", "void image()", "boolean restore()"};
    private static final String[] NEVER = {"->", "::", "finally", "assert ", "synchronized", "protected ", "catch",
        "getClass", "hashCode", "toString", ".equals(", "System.out", "Exact(", "static {", "double ", "float "};

    public static void main(String[] args) throws IOException {
        methods();
        fieldsAndConstructors();
        source();
        CHECK.end();
    }

    private static String told(Method m) {
        StringBuilder s = new StringBuilder(m.getReturnType() + " " + m.getName() + "(");
        for (Class<?> type : m.getParameterTypes()) {
            s.append(s.charAt(s.length() - 1) == '(' ? "" : ",").append(type);
        }
        return s.append(")").toString();
    }

    private static void methods() {
        Set<String> want = new TreeSet<>(List.of(FACE));
        Set<String> names = new TreeSet<>();
        for (String call : FACE) {
            names.add(call.substring(call.indexOf(' ') + 1, call.indexOf('(')));
        }
        Set<String> got = new TreeSet<>();
        for (Method m : SlipRoom.class.getDeclaredMethods()) {
            if (Modifier.isPrivate(m.getModifiers())) {
                CHECK.fails("a private method has a public name: " + m.getName(), names.contains(m.getName()));
            } else {
                got.add((Modifier.isPublic(m.getModifiers()) ? "" : "hidden ") + told(m));
            }
        }
        CHECK.holds("public methods " + got, got.equals(want));
        for (Class<?> inner : SlipRoom.class.getDeclaredClasses()) {
            CHECK.holds(inner + " is static", Modifier.isStatic(inner.getModifiers()));
            CHECK.fails(inner + " is public", Modifier.isPublic(inner.getModifiers()));
            for (Method m : inner.getDeclaredMethods()) {
                CHECK.fails("a method of " + inner + " has a public name: " + m.getName(), names.contains(m.getName()));
                CHECK.holds(m + " takes seven at most", m.getParameterCount() <= 7);
            }
        }
        CHECK.holds("twelve classes at most", SlipRoom.class.getDeclaredClasses().length < 12);
    }

    private static void fieldsAndConstructors() {
        CHECK.due("modifiers of the class", SlipRoom.class.getModifiers(), Modifier.PUBLIC | Modifier.FINAL);
        CHECK.holds("without a package", SlipRoom.class.getPackageName().isEmpty());
        Constructor<?>[] all = SlipRoom.class.getDeclaredConstructors();
        CHECK.due("constructors", all.length, 1);
        CHECK.due("its parameters", all[0].getParameterCount(), 0);
        CHECK.holds("it is public", Modifier.isPublic(all[0].getModifiers()));
        List<Class<?>> classes = new ArrayList<>(List.of(SlipRoom.class.getDeclaredClasses()));
        classes.add(SlipRoom.class);
        for (Class<?> type : classes) {
            int own = 0;
            for (Field f : type.getDeclaredFields()) {
                boolean fixed = Modifier.isFinal(f.getModifiers());
                CHECK.holds(f + " is final or of an object", fixed || !Modifier.isStatic(f.getModifiers()));
                CHECK.holds(f + " is private, or NONE", f.getName().equals("NONE") || f.isEnumConstant()
                        || Modifier.isPrivate(f.getModifiers()));
                own += Modifier.isStatic(f.getModifiers()) ? 0 : 1;
            }
            CHECK.holds(type + " has some twenty fields at most", own <= 20);
        }
    }

    private static void source() throws IOException {
        Path path = Path.of("src/main/java/SlipRoom.java");
        String text = Files.readString(path);
        for (String never : NEVER) {
            CHECK.fails("the source has " + never, text.contains(never));
        }
        Matcher imports = Pattern.compile("import ([^;]*);").matcher(text);
        while (imports.find()) {
            CHECK.holds("import of " + imports.group(1),
                    Set.of("java.util.Arrays", "java.util.NoSuchElementException").contains(imports.group(1)));
        }
        String[] lines = text.split("\n");
        for (int i = 0; i < lines.length; i++) {
            String line = lines[i].strip();
            // rows are made with the object, so that no call but one that throws makes anything
            boolean makes = line.contains("new ") && !line.startsWith("*") && !line.startsWith("/**");
            CHECK.holds("line " + (i + 1) + " makes nothing, or with the object", !makes || line.startsWith("private ")
                    || line.startsWith("throw new ") || line.startsWith("this."));
        }
        shortMethods(lines);
    }

    private static void shortMethods(String[] lines) {
        Pattern head = Pattern.compile("(    |        )(public |private |static )*\\w+ \\w+\\(.*\\{");
        int methods = 0;
        for (int i = 0; i < lines.length; i++) {
            Matcher m = head.matcher(lines[i]);
            if (m.matches() && !lines[i].contains(" else ")) {
                int end = i;
                while (!lines[end].equals(m.group(1) + "}")) {
                    end++;
                }
                methods++;
                CHECK.holds("the method at line " + (i + 1) + " is short", end - i < 60);
            }
        }
        CHECK.holds("methods were seen: " + methods, methods > 60);
    }
}
