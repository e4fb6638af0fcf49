import java.io.IOException;
import java.lang.reflect.Method;
import java.nio.file.Files;
import java.nio.file.Path;
import java.util.ArrayList;
import java.util.HashSet;
import java.util.List;
import java.util.Set;
import java.util.TreeSet;
import java.util.regex.Matcher;
import java.util.regex.Pattern;

/** README.md: its examples answer what they say, and its table has each call of the face with its exceptions. */
public final class ReadmeTest {
    private static final Path README = Path.of("README.md");
    private static final Path ITSELF = Path.of("tests/ReadmeTest.java");

    public static void main(String[] args) throws IOException {
        examplesAnswerAsTold();
        examplesAreThese();
        commandsAreRight();
        eachCallIsInTheTable();
        eachTestIsNamed();
        Check.close("ReadmeTest");
    }

    private static void examplesAnswerAsTold() {
        ImageTexts x = new ImageTexts();
        String text = "F6*A10C3*A11R4,2*D10*X5Y5D3*Tpad*X9Y5D1*E*\n";
        for (int i = 0; i < text.length(); i++) {
            x.unit(text.charAt(i));
        }
        int objects = x.read();
        Check.due("objects", 2, objects);

        ImageTexts y = new ImageTexts();
        y.unit('F');
        y.unit('7');
        y.unit('*');
        int wrong = -1 - y.read();
        Check.due("wrong", 0, wrong);

        boolean copper = x.in(12, 5);
        int kind = x.object(1, 0);
        int end = x.object(1, 5);
        int letter = x.attribute(1, 0);
        int none = x.attribute(1, 3);
        boolean alike = x.same(0);
        int feeds = x.odd(0);
        Check.due("copper", true, copper);
        Check.due("kind", 1, kind);
        Check.due("end", 9, end);
        Check.due("letter", 'p', letter);
        Check.due("none", ImageTexts.NONE, none);
        Check.due("alike", false, alike);
        Check.due("feeds", 1, feeds);

        int number = x.aperture(1, 4, 2);
        boolean cut = x.flash(number, 5, 5, false);
        int macro = x.macro(ImageTexts.NONE, 0, 0);
        int parts = x.macro(1, 2, 7);
        int changed = x.repeat(2, 1, 100, 0);
        x.region(true);
        x.corner(0, 20);
        x.corner(9, 20);
        x.corner(0, 29);
        boolean closed = x.region(false);
        boolean copy = x.in(101, 21);
        Check.due("number", 12, number);
        Check.due("cut", true, cut);
        Check.due("macro", 0, macro);
        Check.due("parts", 2, parts);
        Check.due("changed", 1, changed);
        Check.due("closed", true, closed);
        Check.due("copy", true, copy);
        Check.due("in(5, 5), it is cut out", false, x.in(5, 5));

        StringBuilder written = new StringBuilder();
        for (int i = 0; x.write(i) != ImageTexts.NONE; i++) {
            written.append((char) x.write(i));
        }
        Check.due("written", "F6*M0:C1,1,0,0:C1,7,0,0*A10C3*A11R4,2*A12R4,2*D10*X5Y5D3*Tpad*X9Y5D1*N*T*D12*X5Y5D3*"
                + "P*S2,1,100,0*B*X0Y20D2*X9Y20D1*X0Y29D1*Z*E*", written.toString());
    }

    /** Each line of an example, but for what it tells behind //, is a line of this test, with the answer told. */
    private static void examplesAreThese() throws IOException {
        Set<String> mine = new HashSet<>();
        for (String line : Files.readAllLines(ITSELF)) {
            mine.add(line.strip());
        }
        boolean inside = false;
        int count = 0;
        for (String line : Files.readAllLines(README)) {
            if (line.startsWith("```")) {
                inside = line.equals("```java");
            } else if (inside) {
                int told = line.indexOf("//");
                String code = (told < 0 ? line : line.substring(0, told)).strip();
                Check.due("whether this is a line of ReadmeTest: " + code, true, mine.contains(code));
                if (told >= 0) {
                    String answer = line.substring(told + 2).split(":")[0].strip();
                    String due = "Check.due(\"" + code.split(" ")[1] + "\", " + answer + ", " + code.split(" ")[1] + ");";
                    Check.due("whether this is a line of ReadmeTest: " + due, true, mine.contains(due));
                    count++;
                }
            }
        }
        Check.due("answers told", 16, count);
    }

    /** The table of commands, top to bottom, is a text. */
    private static void commandsAreRight() throws IOException {
        StringBuilder text = new StringBuilder();
        for (String line : Files.readAllLines(README)) {
            String[] cells = line.split("\\|");
            if (cells.length == 3 && cells[1].contains("*`")) {
                Matcher commands = Pattern.compile("`([^`]*\\*)`").matcher(cells[1]);
                while (commands.find()) {
                    text.append(commands.group(1));
                }
            }
        }
        Check.right(3, text.toString());
    }

    private static void eachCallIsInTheTable() throws IOException {
        List<String> rows = new ArrayList<>();
        for (String line : Files.readAllLines(README)) {
            String[] cells = line.split("\\|");
            if (cells.length == 4 && cells[1].contains("(")) {
                rows.add(cells[1].replaceAll("[ `]", "").replaceAll("\\(.*", "") + " throws " + named(cells[3]));
            }
        }
        Set<String> face = new TreeSet<>();
        for (Method m : ImageTexts.class.getDeclaredMethods()) {
            if (java.lang.reflect.Modifier.isPublic(m.getModifiers())) {
                StringBuilder types = new StringBuilder();
                for (Class<?> c : m.getExceptionTypes()) {
                    types.append(' ').append(c.getSimpleName());
                }
                face.add(m.getName() + " throws " + types);
            }
        }
        Check.due("rows of the table", face.size(), rows.size());
        Check.due("the calls and their exceptions", face.toString(), new TreeSet<>(rows).toString());
    }

    private static String named(String cell) {
        StringBuilder names = new StringBuilder();
        Matcher exceptions = Pattern.compile("`(\\w+Exception)`").matcher(cell);
        while (exceptions.find()) {
            names.append(' ').append(exceptions.group(1));
        }
        return names.toString();
    }

    private static void eachTestIsNamed() throws IOException {
        String all = Files.readString(README);
        try (var files = Files.list(Path.of("tests"))) {
            for (Path file : files.toList()) {
                String name = file.getFileName().toString().replace(".java", "");
                if (name.endsWith("Test")) {
                    Check.due("whether README.md names " + name, true, all.contains("| " + name + " |"));
                }
            }
        }
    }
}
