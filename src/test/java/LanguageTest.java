import java.io.IOException;
import java.nio.file.Files;
import java.nio.file.Path;
import java.util.HashSet;
import java.util.List;
import java.util.Set;
import java.util.regex.Matcher;
import java.util.regex.Pattern;

/** What of LANGUAGE.md can be seen in the text of the class, read from the project's folder. */
public final class LanguageTest {
    private static final Path SOURCE = Path.of("src/main/java/CensusOffice.java");
    private static final int MOST_CLASSES = 12;
    private static final int MOST_LINES = 60;
    private static final int MOST_PARAMETERS = 7;
    private static final int MOST_FIELDS = 20;
    private static final Pattern METHOD = Pattern.compile(
            "(?m)^( +)((?:public |private |static )*)([\\w<>\\[\\]]+ )?(\\w+)\\(([^()]*)\\)[^;{}]*\\{$");
    private static final Pattern FIELD = Pattern.compile(
            "(?m)^ +private (static )?(final )?([\\w<>\\[\\]]+) \\w+( =[^;]*)?;");
    private static final Checks CHECKS = new Checks("LanguageTest");

    public static void main(String[] args) throws IOException {
        String text = Files.readString(SOURCE);
        String code = text.replaceAll("(?s)/\\*.*?\\*/", "").replaceAll("//[^\n]*", "")
                .replaceAll("\"[^\"\n]*\"", "\"\"");
        CHECKS.due("the text is of characters 0 to 127", 0, () -> text.matches("(?s)[\\x00-\\x7f]*") ? 0 : 1);
        classes(code);
        words(code);
        library(code);
        methods(code);
        fields(code);
        CHECKS.end();
    }

    private static int count(String pattern, String code) {
        return (int) Pattern.compile(pattern).matcher(code).results().count();
    }

    private static void classes(String code) {
        int all = count("\\b(class|enum|interface|record) \\w+ ", code);
        CHECKS.due("11 classes, at most twelve", 0, () -> all <= MOST_CLASSES ? 0 : all);
        CHECKS.due("1 one public final class", 1, () -> count("(?m)^public final class CensusOffice \\{", code));
        CHECKS.due("1 the others are private and static", all - 1,
                () -> count("(?m)^    private static final class \\w+ \\{", code));
        CHECKS.due("1 public members are those of the face", 5 + 1 + 38, () -> count("(?m)^    public ", code));
        CHECKS.due("1 nothing is public inside", 0, () -> count("(?m)^     +public ", code));
        CHECKS.due("no package", 0, () -> count("(?m)^package ", code));
    }

    private static void words(String code) {
        for (String word : List.of("try", "catch", "finally", "synchronized", "assert", "equals", "hashCode", "toString",
                "getMessage", "double", "float", "volatile", "transient", "native", "Object", "Random", "Thread")) {
            CHECKS.due("no word " + word, 0, () -> count("\\b" + word + "\\b", code));
        }
        CHECKS.due("2 no lambda", 0, () -> count("->", code));
        CHECKS.due("2 no method reference", 0, () -> count("::", code));
        CHECKS.due("10 no joining of texts by +", 0, () -> count("\"\\s*\\+|\\+\\s*\"", code));
        CHECKS.due("6 all that is thrown", count("\\bthrow\\b", code), () -> count("throw new (IllegalStateException"
                + "|IllegalArgumentException|IndexOutOfBoundsException|UnsupportedOperationException)\\((\"\")?\\);", code));
        CHECKS.due("5 no static block", 0, () -> count("static \\{", code));
    }

    private static void library(String code) {
        Set<String> allowed = Set.of("Arrays.copyOf", "Arrays.copyOfRange", "Arrays.fill", "System.arraycopy",
                "Math.max", "Math.min", "Math.abs", "Integer.bitCount", "Integer.numberOfTrailingZeros",
                "Integer.highestOneBit");
        Matcher calls = Pattern.compile("\\b(Arrays|System|Math|Integer|Long|String)\\.\\w+").matcher(code);
        while (calls.find()) {
            String call = calls.group();
            CHECKS.due("4 " + call, 0, () -> allowed.contains(call) ? 0 : 1);
        }
        Matcher imports = Pattern.compile("(?m)^import (.*);$").matcher(code);
        while (imports.find()) {
            String name = imports.group(1);
            CHECKS.due("4 import " + name, 0, () -> name.matches("java\\.util\\.(ArrayList|Arrays|List)") ? 0 : 1);
        }
    }

    private static void methods(String code) {
        Set<String> face = new HashSet<>();
        Matcher publics = Pattern.compile("(?m)^    public int (\\w+)\\(").matcher(code);
        while (publics.find()) {
            face.add(publics.group(1));
        }
        CHECKS.due("1 the methods of the face", 38, () -> face.size());
        Matcher found = METHOD.matcher(code);
        while (found.find()) {
            String name = found.group(4);
            if (List.of("if", "for", "while", "switch").contains(name)) {
                continue;
            }
            String body = code.substring(found.end(), code.indexOf("\n" + found.group(1) + "}", found.end()));
            String parameters = found.group(5).trim();
            int many = parameters.isEmpty() ? 0 : parameters.split(",").length;
            CHECKS.due("11 lines of " + name, 0, () -> body.split("\n").length <= MOST_LINES ? 0 : 1);
            CHECKS.due("11 parameters of " + name, 0, () -> many <= MOST_PARAMETERS ? 0 : many);
            boolean isPublic = found.group(2).contains("public");
            CHECKS.due("1 no other method is named " + name, 0, () -> face.contains(name) && !isPublic ? 1 : 0);
            boolean isConstructor = found.group(3) == null;
            CHECKS.due("6 no throw in a constructor", 0, () -> isConstructor && body.contains("throw") ? 1 : 0);
        }
    }

    private static void fields(String code) {
        for (String part : code.split("(?m)^    private static final class ")) {
            int own = 0;
            Matcher found = FIELD.matcher(part);
            while (found.find()) {
                boolean isStatic = found.group(1) != null;
                boolean isConstant = found.group(2) != null && found.group(3).matches("int|long|boolean|char|String");
                CHECKS.due("5 a static field is a constant:" + found.group(), 0, () -> isStatic && !isConstant ? 1 : 0);
                own += isStatic ? 0 : 1;
            }
            int fields = own;
            CHECKS.due("11 fields of " + part.substring(0, Math.min(12, part.length())), 0,
                    () -> fields <= MOST_FIELDS ? 0 : fields);
        }
    }
}
