import java.io.IOException;
import java.lang.reflect.Field;
import java.lang.reflect.Method;
import java.lang.reflect.Modifier;
import java.nio.file.Files;
import java.nio.file.Path;
import java.util.ArrayList;
import java.util.List;
import java.util.Set;
import java.util.TreeSet;
import java.util.regex.Matcher;
import java.util.regex.Pattern;

/** The public face, and the rules of LANGUAGE.md that a look at the class and its text can hold. */
public final class FaceTest {
    private static final Check CHECK = new Check("FaceTest");
    private static final String[] FACE = {
        "int cell(boolean)", "boolean way(int,int,int)", "int camp(int,int)", "boolean grass(int,int,int)",
        "boolean dry(int,boolean)", "boolean week(int)", "boolean view(int)", "int news(int,int,int,boolean)",
        "int parts(int,int,int)", "int likeliest(int,int)", "int quarrel(int,int)", "int book(int,int,int,int,int)",
        "int lend(int,int)", "int pass(int,int,int)", "int back(int)", "int tear(int,int,int)", "int act(int,int)",
        "int who(int,int)", "int had(int,int)", "int due(int,int)", "int owes(int,int,int)",
        "int feed(int,int,int,int,int)", "int end(int)", "int rules()", "int fault(int)", "int rule(int,int,int,int)",
        "int round(int,int,int)", "int stop(int,int,int)", "boolean wish(int,int,int)", "int load(int,int,int)",
        "int reader(int)", "boolean read(int,int)", "int learns(int,int)", "int giver(int)", "int house(int,int,int)",
        "int count(int)", "boolean image(int)", "boolean again(int)"};

    public static void main(String[] args) throws IOException {
        face();
        members();
        text(Files.readString(Path.of("src/main/java/HerdBooks.java")));
        CHECK.close();
    }

    private static String shown(Method m) {
        List<String> types = new ArrayList<>();
        for (Class<?> type : m.getParameterTypes()) {
            types.add(type.getSimpleName());
        }
        return m.getReturnType().getSimpleName() + " " + m.getName() + "(" + String.join(",", types) + ")";
    }

    private static void face() {
        Set<String> found = new TreeSet<>();
        Set<String> names = new TreeSet<>();
        for (Method m : HerdBooks.class.getDeclaredMethods()) {
            if (Modifier.isPublic(m.getModifiers())) {
                found.add(shown(m));
                names.add(m.getName());
            }
        }
        CHECK.due("public methods", found.size(), FACE.length);
        for (String method : FACE) {
            CHECK.yes("face has " + method, found.contains(method));
        }
        CHECK.due("public constructors", HerdBooks.class.getConstructors().length, 1);
        CHECK.due("public fields", HerdBooks.class.getFields().length, 1);
        CHECK.yes("public and final", Modifier.isFinal(HerdBooks.class.getModifiers()));
        for (Class<?> type : classes()) {
            for (Method m : type.getDeclaredMethods()) {
                boolean own = type == HerdBooks.class && Modifier.isPublic(m.getModifiers());
                CHECK.no("a name of the face: " + type.getName() + "." + m.getName(), !own && names.contains(m.getName()));
                CHECK.yes("parameters of " + m.getName(), m.getParameterCount() <= 7);
            }
        }
    }

    private static List<Class<?>> classes() {
        List<Class<?>> all = new ArrayList<>();
        all.add(HerdBooks.class);
        for (Class<?> inside : HerdBooks.class.getDeclaredClasses()) {
            all.add(inside);
        }
        return all;
    }

    private static void members() {
        CHECK.yes("classes", classes().size() <= 12);
        for (Class<?> type : classes()) {
            int own = 0;
            for (Field f : type.getDeclaredFields()) {
                int how = f.getModifiers();
                own += Modifier.isStatic(how) ? 0 : 1;
                CHECK.yes("static is final: " + f, !Modifier.isStatic(how) || Modifier.isFinal(how));
                boolean shownOut = type == HerdBooks.class && !f.getName().equals("NONE");
                CHECK.yes("private: " + f, !shownOut || Modifier.isPrivate(how));
            }
            CHECK.yes("fields of " + type, own <= 20);
            CHECK.yes("static " + type, type == HerdBooks.class || Modifier.isStatic(type.getModifiers()));
        }
    }

    private static void text(String source) {
        String code = source.replaceAll("(?s)/\\*.*?\\*/", "").replaceAll("//[^\n]*", "");
        CHECK.no("a sign beyond 127", code.chars().anyMatch(c -> c > 127));
        String plain = code.replaceAll("\"[^\"]*\"", "\"\"").replaceAll("'[^']*'", "' '");
        String[] banned = {"throw", "try", "catch", "finally", "synchronized", "assert", "protected", "package", "Exact",
            "String\\.format", "System\\.(?!arraycopy)", "Random", "->", "::", "\\bdouble", "\\bfloat", "\" *\\+",
            "\\+ *\""};
        for (String word : banned) {
            Matcher m = Pattern.compile(word).matcher(plain);
            CHECK.no("the text has " + word, m.find());
        }
        Matcher imports = Pattern.compile("import ([^;]*);").matcher(plain);
        while (imports.find()) {
            CHECK.yes("import " + imports.group(1), imports.group(1).matches("java\\.util\\.(Arrays|ArrayList|List)"));
        }
        methodLengths(plain);
    }

    private static void methodLengths(String plain) {
        Matcher m = Pattern.compile("(?s)\n( +)[a-z][^\n;=]*\\([^\n;]*\\) \\{\n.*?\n\\1\\}\n").matcher(plain);
        int methods = 0;
        while (m.find()) {
            methods++;
            CHECK.yes("lines of " + m.group().trim().split("\n")[0], m.group().trim().split("\n").length <= 60);
        }
        CHECK.yes("methods were found", methods > 100);
    }
}
