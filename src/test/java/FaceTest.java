import java.io.IOException;
import java.lang.reflect.Constructor;
import java.lang.reflect.Field;
import java.lang.reflect.Method;
import java.lang.reflect.Modifier;
import java.nio.charset.StandardCharsets;
import java.nio.file.Files;
import java.nio.file.Path;
import java.util.Map;
import java.util.TreeMap;
import java.util.TreeSet;

/** The public face of the document, and rules 1 and 5 of the language as far as the compiled class shows them. */
public final class FaceTest {
    private static final String[] FACE = {
        "int add(int,int) IllegalArgumentException IllegalStateException",
        "int branch(int,int,int) IndexOutOfBoundsException IllegalArgumentException IllegalStateException",
        "int strip(int) IndexOutOfBoundsException",
        "int delay(int,int,int) IndexOutOfBoundsException IllegalArgumentException",
        "int press(int) IllegalArgumentException",
        "int run(int) IllegalArgumentException",
        "int settle() IllegalStateException",
        "int reset()",
        "int append(int) IllegalArgumentException IllegalStateException",
        "int clearBuffer()",
        "int firstError()",
        "int draw() IllegalArgumentException",
        "int undo() IllegalStateException",
        "int relay(int,int) IndexOutOfBoundsException IllegalArgumentException",
        "int contacts(int,int,int) IndexOutOfBoundsException IllegalArgumentException",
        "int count(int) IllegalArgumentException",
        "int leads(int,int) IllegalArgumentException",
        "int race(int) IllegalArgumentException",
        "int cure(int) IllegalArgumentException",
        "int holding()",
        "int idle(int) IndexOutOfBoundsException",
        "double quietShare()",
        "long digest()"};

    private static final Path DOCUMENT = Path.of("../shared/DOC.md");
    private static final Path PROGRAM = Path.of("src/main/java/LadderRelays.java");

    public static void main(String[] args) throws IOException {
        Class<?> type = LadderRelays.class;
        Check.due("public and final", Modifier.toString(type.getModifiers()), "public final");
        Check.due("no package", type.getPackageName(), "");
        linesOfTheDocument();
        methods(type);
        fields(type);
        Constructor<?>[] made = type.getDeclaredConstructors();
        Check.due("constructors", made.length, 1);
        Check.due("constructor", made[0].toString(), "public LadderRelays()");
        for (Class<?> inside : type.getDeclaredClasses()) {
            int m = inside.getModifiers();
            Check.due(inside + " is static", Modifier.isStatic(m) ? 1 : 0, 1);
            Check.due(inside + " is not seen", Modifier.isPublic(m) || Modifier.isProtected(m) ? 1 : 0, 0);
            fieldsOfOwn(inside);
            for (Method method : inside.getDeclaredMethods()) {
                Check.due(inside + " has a method of the face: " + method.getName(), isOfFace(method.getName()) ? 1 : 0, 0);
            }
        }
        Check.end();
    }

    /** Each line of the document's face must be a head in the program, the names of arguments and the throws too. */
    private static void linesOfTheDocument() throws IOException {
        if (!Files.exists(DOCUMENT)) {
            System.out.println("there is no " + DOCUMENT + ": the face is not compared with it");
            return;
        }
        String program = Files.readString(PROGRAM, StandardCharsets.ISO_8859_1).replaceAll("\\s+", " ");
        String document = Files.readString(DOCUMENT, StandardCharsets.ISO_8859_1);
        String face = document.substring(document.indexOf("```java\n") + 8, document.indexOf("\n```\n"));
        int heads = 0;
        for (String line : face.split("\n")) {
            String head = line.trim().replaceAll("\\);$|(Exception);$", line.contains("Exception") ? "$1 {" : ") {");
            if (!head.equals("}")) {
                heads++;
                Check.due("the program has the head " + head, program.contains(head) ? 1 : 0, 1);
            }
        }
        Check.due("heads of the document", heads, FACE.length + 3);
    }

    private static String told(Method m) {
        StringBuilder s = new StringBuilder(m.getReturnType().getSimpleName()).append(' ').append(m.getName()).append('(');
        for (Class<?> p : m.getParameterTypes()) {
            s.append(s.charAt(s.length() - 1) == '(' ? "" : ",").append(p.getSimpleName());
        }
        s.append(')');
        for (Class<?> e : m.getExceptionTypes()) {
            s.append(' ').append(e.getSimpleName());
        }
        return s.toString();
    }

    private static void methods(Class<?> type) {
        Map<String, String> open = new TreeMap<>();
        TreeSet<String> hidden = new TreeSet<>();
        for (Method m : type.getDeclaredMethods()) {
            if (Modifier.isPrivate(m.getModifiers())) {
                hidden.add(m.getName());
            } else {
                Check.due(m.getName(), Modifier.toString(m.getModifiers()), "public");
                open.put(m.getName(), told(m));
            }
        }
        Check.due("methods of the face", open.size(), FACE.length);
        for (String line : FACE) {
            String name = line.substring(line.indexOf(' ') + 1, line.indexOf('('));
            Check.due(name, String.valueOf(open.get(name)), line);
            Check.due("a private " + name, hidden.contains(name) ? 1 : 0, 0);
        }
    }

    private static boolean isOfFace(String name) {
        for (String line : FACE) {
            if (line.startsWith(name + "(", line.indexOf(' ') + 1)) {
                return true;
            }
        }
        return false;
    }

    private static void fields(Class<?> type) {
        for (Field f : type.getDeclaredFields()) {
            if (!Modifier.isPrivate(f.getModifiers())) {
                Check.due("a field that is seen", f.toString(), "public static final int LadderRelays.NONE");
            }
        }
        fieldsOfOwn(type);
    }

    private static void fieldsOfOwn(Class<?> type) {
        int own = 0;
        for (Field f : type.getDeclaredFields()) {
            int m = f.getModifiers();
            own += Modifier.isStatic(m) ? 0 : 1;
            Check.due(f + " is final if static", Modifier.isStatic(m) && !Modifier.isFinal(m) ? 1 : 0, 0);
        }
        Check.due(type + " has few fields", own <= 20 ? 1 : 0, 1);
    }
}
