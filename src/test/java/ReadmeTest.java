import java.io.File;
import java.io.IOException;
import java.lang.reflect.Method;
import java.lang.reflect.Modifier;
import java.nio.file.Files;
import java.nio.file.Path;
import java.util.ArrayList;
import java.util.Comparator;
import java.util.List;
import java.util.Map;
import java.util.TreeMap;
import java.util.regex.Matcher;
import java.util.regex.Pattern;
import java.util.stream.Stream;

/** README.md: what it says of the class and of the tests is tried as it is written there. */
public final class ReadmeTest {
    private static final Check CHECK = new Check("ReadmeTest");
    private static final Pattern BLOCK = Pattern.compile("(?s)```(\\w+)\n(.*?)```");
    private static final Pattern ROW = Pattern.compile("(?:int (\\w+) = )?(.*\\));\\s+// (-?\\d+|true|false)(?::.*)?");
    private static final Pattern CALL = Pattern.compile("\\| `(\\w+)\\((.*?)\\)` \\| .* \\| (-?\\d+|false): .* \\|");
    private static final int FAR = 100000;
    private static final int TRIES = 26;

    private final String page;
    private final Path room;
    private final List<String> commands = new ArrayList<>();
    private final List<String> rows = new ArrayList<>();
    private String program = "";
    private String printed = "";
    private String helper = "";

    private ReadmeTest(String page, Path room) {
        this.page = page;
        this.room = room;
        Matcher m = BLOCK.matcher(page);
        while (m.find()) {
            keep(m.group(1), m.group(2));
        }
    }

    public static void main(String[] args) throws Exception {
        Path top = Files.createTempDirectory("readme");
        try {
            // The page's commands are run where they can leave nothing behind in the checkout.
            Path room = Files.createDirectory(top.resolve("main"));
            Files.createSymbolicLink(room.resolve("src"), Path.of("src").toAbsolutePath());
            Files.createSymbolicLink(top.resolve("shared"), Path.of("../shared").toAbsolutePath().normalize());
            ReadmeTest test = new ReadmeTest(Files.readString(Path.of("README.md")), room);
            test.program();
            test.rows();
            test.everyCallIsShown();
            test.calls();
            test.commands();
            test.tests();
        } finally {
            delete(top);
        }
        CHECK.close();
    }

    private static void delete(Path top) throws IOException {
        try (Stream<Path> all = Files.walk(top)) {
            for (Path path : all.sorted(Comparator.reverseOrder()).toList()) {
                Files.delete(path);
            }
        }
    }

    private void keep(String language, String text) {
        switch (language) {
            case "text": printed = text; break;
            case "sh": commands.add(text); break;
            case "java":
                if (text.contains("class Example")) {
                    program = text;
                } else if (text.startsWith("static ")) {
                    helper = text;
                } else {
                    rows.addAll(List.of(text.split("\n")));
                }
                break;
            default: CHECK.yes("a block of " + language, false);
        }
    }

    /** The exit code, with what was printed in the room's file 'printed'. */
    private int run(String command) throws Exception {
        ProcessBuilder shell = new ProcessBuilder("sh", "-e", "-c", command).directory(room.toFile());
        File out = room.resolve("printed").toFile();
        int code = shell.redirectErrorStream(true).redirectOutput(out).start().waitFor();
        if (code != 0) {
            System.out.println(Files.readString(out.toPath()));
        }
        return code;
    }

    private void program() throws Exception {
        Files.writeString(room.resolve("Example.java"), program);
        CHECK.due("its command", run(commands.get(0)), 0);
        CHECK.yes("it prints what stands there", Files.readString(room.resolve("printed")).equals(printed));
    }

    /** A row's call, with its answer compared to that behind '//'. */
    private static String compared(String row) {
        if (row.equals("HerdBooks x = new HerdBooks();")) {
            return row;
        }
        Matcher m = ROW.matcher(row);
        if (!m.matches()) {
            CHECK.yes("a row with its answer: " + row, false);
            return "";
        }
        String call = m.group(2).replace("\\", "\\\\").replace("\"", "\\\"");
        String due = "due(\"" + call + "\", \"\" + ";
        if (m.group(1) == null) {
            return due + m.group(2) + ", \"" + m.group(3) + "\");";
        }
        return "int " + m.group(1) + " = " + m.group(2) + "; " + due + m.group(1) + ", \"" + m.group(3) + "\");";
    }

    private void rows() throws Exception {
        List<String> lines = new ArrayList<>();
        lines.add("public final class Rows {");
        lines.add("static int wrong = 0;");
        lines.add("static void due(String call, String got, String want) { if (!got.equals(want)) { wrong++;");
        lines.add("System.out.println(call + \" answered \" + got + \", the page says \" + want); } }");
        lines.add(helper);
        lines.add("public static void main(String[] args) {");
        rows.stream().filter(row -> !row.isBlank()).map(ReadmeTest::compared).forEach(lines::add);
        lines.add("if (wrong != 0) System.exit(1); System.out.println(\"as the page says\"); } }");
        Files.writeString(room.resolve("Rows.java"), String.join("\n", lines));
        CHECK.yes("there are rows", rows.size() > 80);
        CHECK.due("the rows", run("javac -d rows src/main/java/HerdBooks.java Rows.java\njava -cp rows Rows"), 0);
        CHECK.yes("to their end", Files.readString(room.resolve("printed")).equals("as the page says\n"));
    }

    private static Map<String, Method> face() {
        Map<String, Method> face = new TreeMap<>();
        for (Method m : HerdBooks.class.getDeclaredMethods()) {
            if (Modifier.isPublic(m.getModifiers())) {
                face.put(m.getName(), m);
            }
        }
        return face;
    }

    private void everyCallIsShown() {
        String shown = String.join("\n", rows) + helper;
        for (String name : face().keySet()) {
            CHECK.yes("a row calls " + name, shown.contains("x." + name + "("));
        }
    }

    /** The table of calls has each one with its parameters, and what it answers when it is refused. */
    private void calls() throws Exception {
        Map<String, Method> face = face();
        Matcher m = CALL.matcher(page);
        while (m.find()) {
            Method method = face.remove(m.group(1));
            CHECK.yes("the table's " + m.group(1) + " is there, once", method != null);
            if (method != null) {
                int count = m.group(2).isEmpty() ? 0 : m.group(2).split(", ").length;
                CHECK.due("parameters of " + m.group(1), count, method.getParameterCount());
                CHECK.yes(m.group(1) + " refused answers " + m.group(3), refused(method).equals(m.group(3)));
            }
        }
        for (String name : face.keySet()) {
            CHECK.yes("the table has " + name, false);
        }
    }

    /** Numbers that nothing has; what takes any numbers is called until it is full. */
    private static String refused(Method method) throws Exception {
        HerdBooks x = new HerdBooks();
        Object[] far = new Object[method.getParameterCount()];
        for (int i = 0; i < far.length; i++) {
            far[i] = method.getParameterTypes()[i] == boolean.class ? (Object) true : (Object) FAR;
        }
        String answer = "";
        for (int i = 0; i < TRIES; i++) {
            if (method.getName().equals("rules")) {
                x.feed(FAR, FAR, FAR, FAR, FAR);
            }
            answer = "" + method.invoke(x, far);
        }
        return answer;
    }

    /** The shared tests are not the project's own: one that goes away is told of, but is no fault of the class. */
    private static boolean hasSharedTest(String command) {
        Matcher m = Pattern.compile("\\.\\./shared/tests/\\w+\\.java").matcher(command);
        boolean there = !m.find() || Files.exists(Path.of(m.group()));
        if (!there) {
            System.out.println("ReadmeTest: not tried, the page is to be mended: " + command);
        }
        return there;
    }

    private void commands() throws Exception {
        for (String command : commands.subList(1, commands.size())) {
            // .ci/run runs this test: it is tried as this is.
            if (!command.equals(".ci/run\n") && hasSharedTest(command)) {
                CHECK.due(command, run(command), 0);
            }
        }
        CHECK.due("a program, all tests, one of the project alone, a shared one alone", commands.size(), 4);
        CHECK.yes(".ci/run can be run", commands.contains(".ci/run\n") && Files.isExecutable(Path.of(".ci/run")));
    }

    private void tests() {
        int found = 0;
        for (String file : new File("src/test/java").list()) {
            if (file.endsWith("Test.java")) {
                found++;
                CHECK.yes("the page tells of " + file, page.contains("\n| " + file.replace(".java", "") + " | "));
            }
        }
        int told = page.split("\n\\| \\w+Test \\| ").length - 1;
        CHECK.due("tests that the page tells of", told, found);
    }
}
