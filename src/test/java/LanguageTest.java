import java.lang.reflect.Array;
import java.lang.reflect.Field;
import java.lang.reflect.Modifier;
import java.nio.file.Files;
import java.nio.file.Path;
import java.util.ArrayList;
import java.util.Collections;
import java.util.IdentityHashMap;
import java.util.List;
import java.util.Set;
import java.util.regex.Matcher;
import java.util.regex.Pattern;

/** The rules of LANGUAGE.md that can be seen in the source's text, and the room that an object takes. */
public final class LanguageTest {
    private static final Path SOURCE = Path.of("src/main/java/SlipHeirs.java");

    /** Rules 2, 5, 6, 9, 10 and 13: what the class does without. */
    private static final String[] LEFT_OUT = {"->", "::", "\\btry\\b", "\\bcatch\\b", "\\bfinally\\b", "\\bsynchronized\\b", "\\bassert\\b",
        "\\bpackage\\b", "\\bwhile\\b", "for \\(;[^;]*;\\s*\\)", "\\bstatic \\{", "\\bdouble\\b", "\\bfloat\\b", "\\bvar\\b", "\\bequals\\b",
        "\\bhashCode\\b", "\\btoString\\b", "\\[\\]\\[\\]", "\\binstanceof\\b", "Exact\\b", "\\b(Thread|Runtime|Random|Object)\\b"};

    public static void main(String[] args) throws Exception {
        String source = Files.readString(SOURCE);
        onlyPlainSigns(source);
        List<String> lines = List.of(bare(source).split("\n"));
        imports(lines);
        for (int i = 0; i < lines.size(); i++) {
            leftOut(i + 1, lines.get(i));
            library(i + 1, lines.get(i));
            objectsAreMadeAhead(i + 1, lines.get(i));
        }
        methodsStayShort(lines);
        roomOfAnObject();
        Check.close("LanguageTest");
    }

    /** Without comments, and with all constants empty; a line stays a line. */
    private static String bare(String source) {
        String code = source.replaceAll("\"[^\"\\n]*\"", "\"\"").replaceAll("'(\\\\.|[^'\\\\])'", "' '");
        Matcher m = Pattern.compile("/\\*.*?\\*/", Pattern.DOTALL).matcher(code);
        return m.replaceAll(found -> found.group().replaceAll("[^\\n]", "")).replaceAll("//[^\\n]*", "");
    }

    private static void onlyPlainSigns(String source) {
        Check.is("signs of 1 to 127 alone", source.chars().allMatch(c -> c > 0 && c < 128));
    }

    private static void imports(List<String> lines) {
        for (String line : lines) {
            if (line.startsWith("import")) {
                Check.is(line, line.equals("import java.util.Arrays;") || line.equals("import java.util.NoSuchElementException;"));
            }
        }
    }

    private static void leftOut(int number, String line) {
        for (String sign : LEFT_OUT) {
            Check.isNot("line " + number + " has " + sign + ":" + line, Pattern.compile(sign).matcher(line).find());
        }
    }

    /** Rules 4 and 6. */
    private static void library(int number, String line) {
        Matcher m = Pattern.compile("\\b(Arrays|System|Math|Integer|Long|String)\\.(\\w+)").matcher(line);
        while (m.find()) {
            boolean fine = List.of("Arrays.fill", "System.arraycopy", "Math.min", "Integer.bitCount").contains(m.group());
            Check.is("line " + number + ": " + m.group(), fine);
        }
        Check.is("line " + number + ": " + line, !line.contains("throw ") || line.trim().equals("throw new NoSuchElementException();"));
    }

    /** Rule 12: all rows are made in constructors; no call makes an object. */
    private static void objectsAreMadeAhead(int number, String line) {
        if (Pattern.compile("\\bnew\\b").matcher(line).find()) {
            boolean field = line.matches("\\s+(private )?final [\\w\\[\\]]+ \\w+ = .*");
            Check.is("line " + number + ": " + line, field || line.contains("throw ") || line.trim().equals("kept[i] = new Life();"));
        }
        Check.isNot("line " + number + ": " + line, line.contains("clone()") || line.contains("copyOf"));
    }

    /** Rule 11. */
    private static void methodsStayShort(List<String> lines) {
        int begun = -1;
        String indent = "";
        int methods = 0;
        for (int i = 0; i < lines.size(); i++) {
            Matcher m = Pattern.compile("^( +)[^=;]*\\)( throws \\w+)? \\{$").matcher(lines.get(i));
            if (begun < 0 && m.matches()) {
                begun = i;
                indent = m.group(1);
                methods++;
            } else if (begun >= 0 && lines.get(i).equals(indent + "}")) {
                Check.is("the method in line " + (begun + 1) + " stays short", i - begun < 60);
                begun = -1;
            }
        }
        Check.is("methods were found: " + methods, methods > 100 && begun < 0);
    }

    /** A thousand objects of one run stay within 600,000 objects and 7.3 million fields and elements. */
    private static void roomOfAnObject() throws Exception {
        Set<Object> seen = Collections.newSetFromMap(new IdentityHashMap<>());
        List<Object> open = new ArrayList<>();
        SlipHeirs x = new SlipHeirs();
        seen.add(x);
        open.add(x);
        long elements = 0;
        while (!open.isEmpty()) {
            Object one = open.remove(open.size() - 1);
            List<Object> parts = new ArrayList<>();
            elements += one.getClass().isArray() ? elementsOf(one, parts) : fieldsOf(one, parts);
            for (Object part : parts) {
                if (part != null && seen.add(part)) {
                    open.add(part);
                }
            }
        }
        Check.is("objects and arrays of one object: " + seen.size(), seen.size() > 20 && seen.size() <= 600);
        Check.is("fields and elements of one object: " + elements, elements > 940 && elements <= 7300);
    }

    private static long elementsOf(Object row, List<Object> parts) {
        int length = Array.getLength(row);
        for (int i = 0; i < length && !row.getClass().getComponentType().isPrimitive(); i++) {
            parts.add(Array.get(row, i));
        }
        return length;
    }

    private static long fieldsOf(Object one, List<Object> parts) throws IllegalAccessException {
        long fields = 0;
        for (Field field : one.getClass().getDeclaredFields()) {
            if (!Modifier.isStatic(field.getModifiers())) {
                fields++;
                if (!field.getType().isPrimitive()) {
                    field.setAccessible(true);
                    parts.add(field.get(one));
                }
            }
        }
        return fields;
    }
}
