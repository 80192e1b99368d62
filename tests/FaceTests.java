import java.io.IOException;
import java.lang.reflect.Constructor;
import java.lang.reflect.Executable;
import java.lang.reflect.Field;
import java.lang.reflect.Method;
import java.lang.reflect.Modifier;
import java.nio.file.Files;
import java.nio.file.Path;
import java.util.ArrayList;
import java.util.List;

/** The public face, read from the document itself: each declaration, its heading, and nothing that it lacks. */
public final class FaceTests {
    private static final String HEAD = "public final class TowerDown {";
    private static final String[] HEADINGS = {"stones", "stairs", "what is there", "days", "what would be"};

    private static int wrong = 0;

    private static void check(boolean good, String fault) {
        if (!good) {
            wrong++;
            System.out.println(fault);
        }
    }

    private static String spaced(String text) {
        return text.replaceAll("\\s+", " ").trim();
    }

    private static String read(String file) throws IOException {
        return Files.readString(Path.of(file));
    }

    /** The declarations in the document's order, without the semicolons at their ends. */
    private static List<String> declarations(String document) {
        List<String> found = new ArrayList<>();
        int start = document.indexOf(HEAD) + HEAD.length();
        for (String line : document.substring(start, document.indexOf("\n}", start)).split(";")) {
            if (!line.isBlank()) {
                found.add(spaced(line));
            }
        }
        return found;
    }

    /** All that the source has, and in the order of the document. */
    private static void declaresAll(List<String> declarations, String source) {
        int at = source.indexOf(HEAD);
        check(at >= 0, "the source lacks " + HEAD);
        for (String declaration : declarations) {
            int next = source.indexOf(declaration + " {", Math.max(0, at));
            check(next >= 0, "the source lacks, or has elsewhere, " + declaration);
            at = Math.max(at, next);
        }
    }

    /** "Ahead of the calls `pass` the interface says: ---- days." and the like */
    private static void saysHeadings(String document, String source) {
        for (String heading : HEADINGS) {
            int end = document.indexOf(" the interface says: ---- " + heading + ".");
            check(end >= 0, "the document lacks the heading " + heading);
            String calls = document.substring(document.lastIndexOf("Ahead of the calls", end), Math.max(0, end));
            String first = calls.substring(calls.indexOf('`') + 1, calls.indexOf('`', calls.indexOf('`') + 1));
            boolean said = source.matches(".*// ---- " + heading + " public \\w+ " + first + "\\(.*");
            check(said, "the source lacks the heading " + heading + " ahead of " + first);
        }
    }

    private static String list(Class<?>[] types) {
        StringBuilder text = new StringBuilder();
        for (Class<?> type : types) {
            text.append(text.length() == 0 ? "" : ", ").append(type.getSimpleName());
        }
        return text.toString();
    }

    private static String told(String start, Executable made) {
        String thrown = list(made.getExceptionTypes());
        return start + "(" + list(made.getParameterTypes()) + ")" + (thrown.isEmpty() ? "" : " throws " + thrown);
    }

    private static boolean isHidden(int modifiers) {
        return Modifier.isPrivate(modifiers);
    }

    /** What is not private is public, and declared in the document; parameters have no names here. */
    private static void showsNothingElse(List<String> declarations) {
        List<String> nameless = new ArrayList<>();
        List<String> names = new ArrayList<>();
        for (String declaration : declarations) {
            nameless.add(declaration.replaceAll("int \\w+([,)])", "int$1"));
        }
        int shown = 0;
        for (Constructor<?> made : TowerDown.class.getDeclaredConstructors()) {
            check(nameless.contains(told("public TowerDown", made)) && Modifier.isPublic(made.getModifiers()),
                    "the document lacks " + made);
            shown++;
        }
        for (Method made : TowerDown.class.getDeclaredMethods()) {
            if (!isHidden(made.getModifiers())) {
                check(made.getModifiers() == Modifier.PUBLIC && nameless.contains(told("public "
                        + made.getReturnType().getSimpleName() + " " + made.getName(), made)),
                        "the document lacks " + made);
                names.add(made.getName());
                shown++;
            }
        }
        check(shown == declarations.size(), shown + " public members, due are " + declarations.size());
        hidesTheRest(names);
    }

    private static void hidesTheRest(List<String> names) {
        for (Field field : TowerDown.class.getDeclaredFields()) {
            check(isHidden(field.getModifiers()), "not private: " + field);
            check(!Modifier.isStatic(field.getModifiers()) || Modifier.isFinal(field.getModifiers()),
                    "static, but not final: " + field);
        }
        List<Class<?>> all = new ArrayList<>(List.of(TowerDown.class.getDeclaredClasses()));
        all.add(TowerDown.class);
        for (Class<?> type : all) {
            for (Method made : type.getDeclaredMethods()) {
                check(!isHidden(made.getModifiers()) || !names.contains(made.getName()),
                        "a private method bears the name of a public one: " + made);
            }
        }
        check(TowerDown.class.getModifiers() == (Modifier.PUBLIC | Modifier.FINAL), "the class is not public and final");
        check(TowerDown.class.getSuperclass() == Object.class && TowerDown.class.getInterfaces().length == 0,
                "the class is one of others, too");
    }

    public static void main(String[] args) throws IOException {
        String document = read("../shared/DOC.md");
        String source = spaced(read("src/main/java/TowerDown.java"));
        List<String> declarations = declarations(document);
        check(declarations.size() == 19, declarations.size() + " declarations in the document, due are 19");
        declaresAll(declarations, source);
        saysHeadings(document, source);
        showsNothingElse(declarations);
        System.out.println(wrong == 0 ? "the face is the document's" : wrong + " faults in the face");
        if (wrong != 0) {
            System.exit(1);
        }
    }
}
