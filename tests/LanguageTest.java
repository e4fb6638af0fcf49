import java.io.IOException;
import java.nio.file.Files;
import java.nio.file.Path;
import java.util.ArrayDeque;
import java.util.ArrayList;
import java.util.Deque;
import java.util.List;
import java.util.Set;
import java.util.TreeSet;
import java.util.regex.Matcher;
import java.util.regex.Pattern;

/** Rules of ../shared/LANGUAGE.md that can be seen in the lines of the class. */
public final class LanguageTest {
    private static final Path SOURCE = Path.of("src/main/java/ImageTexts.java");
    private static final Set<String> LIBRARY = Set.of("String", "Math", "System", "IllegalStateException",
        "IllegalArgumentException", "IndexOutOfBoundsException");
    private static final Set<String> LIBRARY_CALLS = Set.of("Math.abs", "Math.min", "Math.max", "System.arraycopy");
    private static final Set<String> STRING_CALLS = Set.of("length", "charAt", "isEmpty", "indexOf", "substring",
        "toCharArray");
    private static final Pattern METHOD = Pattern.compile(
        "(?:public|private|static|final|boolean|int|long|char|void|[A-Z]\\w*)[ \\w\\[\\]]* (\\w+)\\(([^()]*)\\)[^;{}=]*\\{");

    public static void main(String[] args) throws IOException {
        String source = Files.readString(SOURCE);
        String code = withoutTexts(source);
        onlyPlainCharacters(source);
        noWordsThatAreRuledOut(code);
        onlyTheLibrarysAllowedPart(code);
        throwsAreWrittenOut(source);
        staticFieldsAreFinal(code);
        fewClassesShortMethods(code);
        noLoopWithoutAnEnd(code);
        Check.close("LanguageTest");
    }

    /** The code without its comments, and with empty texts and characters in place of written ones. */
    private static String withoutTexts(String source) {
        String code = source.replaceAll("(?s)/\\*.*?\\*/", "").replaceAll("//[^\n]*", "");
        return code.replaceAll("\"[^\"\n]*\"", "\"\"").replaceAll("'(\\\\.|[^'\\\\])'", "' '");
    }

    private static void onlyPlainCharacters(String source) {
        boolean plain = true;
        for (char c : source.toCharArray()) {
            plain &= c == '\n' || (c >= ' ' && c <= '~');
        }
        Check.due("whether the file has plain characters alone", true, plain);
    }

    /** Rules 2, 6, 10, 13; the class does without the others that are named here. */
    private static void noWordsThatAreRuledOut(String code) {
        String[] words = {"package", "import", "try", "catch", "finally", "synchronized", "assert", "native", "volatile",
            "transient", "protected", "double", "float", "var", "yield", "equals", "hashCode", "toString", "getMessage",
            "lambda", "Exact", "instanceof", "null"};
        for (String word : words) {
            Check.due("whether the code has " + word, false, Pattern.compile("\\b" + word + "\\b").matcher(code).find());
        }
        for (String sign : new String[] {"->", "::", "@", "\"\" +", "+ \"\"", "[][]", "...", "<>"}) {
            Check.due("whether the code has " + sign, false, code.contains(sign));
        }
    }

    /** Rules 3 and 4. */
    private static void onlyTheLibrarysAllowedPart(String code) {
        Set<String> own = new TreeSet<>();
        Matcher classes = Pattern.compile("\\bclass (\\w+)").matcher(code);
        while (classes.find()) {
            own.add(classes.group(1));
        }
        Matcher types = Pattern.compile("\\b[A-Z]\\w*[a-z]\\w*\\b").matcher(code);
        while (types.find()) {
            String name = types.group();
            Check.due("whether the class may use " + name, true, own.contains(name) || LIBRARY.contains(name));
        }
        Matcher calls = Pattern.compile("\\b(Math|System)\\.(\\w+)").matcher(code);
        while (calls.find()) {
            Check.due("whether the class may call " + calls.group(), true, LIBRARY_CALLS.contains(calls.group()));
        }
        Matcher texts = Pattern.compile("\\b(?:SHAPE_LETTERS|OUTER_COMMANDS|REGION_COMMANDS\\)|wanted|\"\")\\.(\\w+)")
            .matcher(code);
        while (texts.find()) {
            Check.due("whether a text's " + texts.group(1) + " is allowed", true, STRING_CALLS.contains(texts.group(1)));
        }
    }

    /** Rule 6: throw new E("a written text"), E being one of the document's. */
    private static void throwsAreWrittenOut(String source) {
        Pattern form = Pattern.compile("throw new (IllegalState|IllegalArgument|IndexOutOfBounds)Exception\\(\"[^\"]*\"\\);");
        Matcher all = Pattern.compile("\\bthrow\\b[^;]*;").matcher(source);
        int count = 0;
        while (all.find()) {
            Check.due("whether this has the form: " + all.group(), true, form.matcher(all.group()).matches());
            count++;
        }
        Check.due("whether there are some", true, count > 10);
    }

    /** Rule 5. */
    private static void staticFieldsAreFinal(String code) {
        for (String line : code.split("\n")) {
            if (line.contains("static ") && !line.contains("(") && !line.contains("class ")) {
                Check.due("whether this is a constant: " + line.strip(), true,
                    line.matches(" *(private|public) static final (int|long|String|boolean|char) [A-Z_]+ = .*;"));
            }
            Check.due("whether this is a block of the class: " + line.strip(), false, line.matches(" *(static )?\\{ *"));
        }
    }

    /** Rule 11: at most seven parameters, some sixty lines, some twelve classes. */
    private static void fewClassesShortMethods(String code) {
        int methods = 0;
        Matcher heads = METHOD.matcher(code);
        while (heads.find()) {
            if (Set.of("if", "for", "while", "switch").contains(heads.group(1))) {
                continue;
            }
            methods++;
            String inner = heads.group(2).strip();
            int parameters = inner.isEmpty() ? 0 : inner.split(",").length;
            Check.due("whether few parameters has " + heads.group(1), true, parameters <= 7);
            int lines = code.substring(heads.start(), endOfBlock(code, heads.end() - 1)).split("\n").length;
            Check.due("whether " + heads.group(1) + " is short: " + lines, true, lines <= 60);
        }
        Check.due("whether the methods were found: " + methods, true, methods > 80);
        int classes = code.split("\\bclass \\w").length - 1;
        Check.due("whether there are few classes: " + classes, true, classes <= 12);
    }

    private static int endOfBlock(String code, int begin) {
        int depth = 0;
        for (int i = begin; i < code.length(); i++) {
            if (code.charAt(i) == '{') {
                depth++;
            } else if (code.charAt(i) == '}') {
                depth--;
                if (depth == 0) {
                    return i;
                }
            }
        }
        return code.length();
    }

    /** Rule 9: each loop is a for with a counter that is held against a bound and goes one way. */
    private static void noLoopWithoutAnEnd(String code) {
        Check.due("whether there is a while or a do", false, Pattern.compile("\\b(while|do)\\b").matcher(code).find());
        Pattern bounded = Pattern.compile("int (\\w+) = [^;]*; \\1 (<|>|>=) [^;]*; (\\1\\+\\+|\\1--|\\1 /= 10)");
        List<String> heads = new ArrayList<>();
        Matcher loops = Pattern.compile("\\bfor \\(").matcher(code);
        while (loops.find()) {
            heads.add(code.substring(loops.end(), closing(code, loops.end() - 1)));
        }
        for (String head : heads) {
            Check.due("whether this loop's end can be seen: " + head, true, bounded.matcher(head).matches());
        }
        Check.due("whether there are loops: " + heads.size(), true, heads.size() > 20);
    }

    private static int closing(String code, int begin) {
        Deque<Integer> open = new ArrayDeque<>();
        for (int i = begin; i < code.length(); i++) {
            if (code.charAt(i) == '(') {
                open.push(i);
            } else if (code.charAt(i) == ')') {
                open.pop();
                if (open.isEmpty()) {
                    return i;
                }
            }
        }
        return code.length();
    }
}
