import java.io.IOException;
import java.lang.reflect.Constructor;
import java.lang.reflect.Field;
import java.lang.reflect.Method;
import java.lang.reflect.Modifier;
import java.nio.file.Files;
import java.nio.file.Path;
import java.util.Arrays;
import java.util.Set;
import java.util.TreeSet;
import java.util.regex.Matcher;
import java.util.regex.Pattern;

/** The face, and those rules of ../shared/LANGUAGE.md that can be seen from outside or by reading the source as text. */
public final class LanguageTest {
    public static void main(String[] args) throws IOException {
        face();
        for (Class<?> inner : DuneRoad.class.getDeclaredClasses()) {
            inner(inner);
        }
        Road.due("at most twelve classes", DuneRoad.class.getDeclaredClasses().length + 1 <= 12, true);
        String source = bare(Files.readString(Path.of("src/main/java/DuneRoad.java")));
        words(source);
        library(source);
        lengths(source);
        Road.finish();
    }

    private static void face() throws IOException {
        String document = Files.readString(Path.of("../shared/DOC.md"));
        String block = document.substring(document.indexOf("```java"), document.indexOf("```", document.indexOf("```java") + 3));
        Set<String> due = new TreeSet<>();
        Matcher method = Pattern.compile("public (int|long|boolean) (\\w+)\\((.*?)\\);").matcher(block);
        while (method.find()) {
            due.add(method.group(1) + " " + method.group(2) + method.group(3).replaceAll("(\\w+) \\w+", "$1").replace(", ", ","));
        }
        Set<String> got = new TreeSet<>();
        Set<String> publicNames = new TreeSet<>();
        for (Method each : DuneRoad.class.getDeclaredMethods()) {
            if (Modifier.isPublic(each.getModifiers())) {
                StringBuilder types = new StringBuilder();
                for (Class<?> type : each.getParameterTypes()) {
                    types.append(types.length() > 0 ? "," : "").append(type);
                }
                got.add(each.getReturnType() + " " + each.getName() + types);
                publicNames.add(each.getName());
            } else {
                Road.due("private: " + each, Modifier.isPrivate(each.getModifiers()), true);
            }
        }
        Road.due("face is " + got + ", due is " + due, got.equals(due), true);
        Road.due("methods", got.size(), 35);
        for (Method each : DuneRoad.class.getDeclaredMethods()) {
            boolean isPrivate = Modifier.isPrivate(each.getModifiers());
            Road.due("a private name that is public: " + each, isPrivate && publicNames.contains(each.getName()), false);
        }
        for (Class<?> inner : DuneRoad.class.getDeclaredClasses()) {
            for (Method each : inner.getDeclaredMethods()) {
                Road.due("an inner name that is public: " + each, publicNames.contains(each.getName()), false);
            }
        }
        for (Field field : DuneRoad.class.getDeclaredFields()) {
            Road.due("private: " + field, Modifier.isPrivate(field.getModifiers()) != field.getName().equals("NONE"), true);
        }
        Constructor<?>[] constructors = DuneRoad.class.getDeclaredConstructors();
        Road.due("constructors", constructors.length, 1);
        Road.due("final", Modifier.isFinal(DuneRoad.class.getModifiers()), true);
        inner(DuneRoad.class);
    }

    private static void inner(Class<?> inner) {
        Road.due("static: " + inner, inner == DuneRoad.class || Modifier.isStatic(inner.getModifiers()), true);
        int fields = 0;
        for (Field field : inner.getDeclaredFields()) {
            if (Modifier.isStatic(field.getModifiers())) {
                boolean plain = Set.of("int", "long", "boolean", "char", "class java.lang.String").contains(field.getType().toString());
                Road.due("a constant: " + field, Modifier.isFinal(field.getModifiers()) && plain, true);
            } else {
                fields++;
            }
        }
        Road.due("some twenty fields: " + inner + " " + fields, fields <= 20, true);
        for (Method method : inner.getDeclaredMethods()) {
            Road.due("at most seven parameters: " + method, method.getParameterCount() <= 7, true);
        }
    }

    /** The source without comments, and with empty texts. */
    private static String bare(String source) {
        return source.replaceAll("(?s)/\\*.*?\\*/", "").replaceAll("//[^\n]*", "").replaceAll("\"[^\"\n]*\"", "\"\"");
    }

    private static void words(String source) {
        for (String word : new String[] {"throw", "throws", "try", "catch", "finally", "synchronized", "assert", "volatile", "native", "float", "double",
            "hashCode", "toString", "var", "package", "protected"}) {
            Road.due("word " + word, Pattern.compile("\\b" + word + "\\b").matcher(source).find(), false);
        }
        for (String sign : new String[] {"->", "::", "\"\" +", "+ \"\"", "Exact(", "static {", "@"}) {
            Road.due("sign " + sign, source.contains(sign), false);
        }
        Road.due("characters", source.chars().allMatch(sign -> sign == '\n' || sign >= 32 && sign < 127), true);
    }

    private static void library(String source) {
        Matcher imports = Pattern.compile("import ([\\w.]+);").matcher(source);
        while (imports.find()) {
            Road.due("import " + imports.group(1), Set.of("java.util.Arrays", "java.util.ArrayList", "java.util.List").contains(imports.group(1)), true);
        }
        Set<String> allowed = Set.of("Math.max", "Math.min", "Math.abs", "Math.floorMod", "Integer.bitCount", "System.arraycopy", "Arrays.fill",
                "Arrays.copyOf");
        Matcher calls = Pattern.compile("\\b(Math|Integer|Long|System|Arrays|String|Character|Objects)\\.(\\w+)").matcher(source);
        while (calls.find()) {
            Road.due("library " + calls.group(), allowed.contains(calls.group()), true);
        }
    }

    private static void lengths(String source) {
        String[] lines = source.split("\n");
        int[] starts = new int[20];
        int depth = 0;
        for (int i = 0; i < lines.length; i++) {
            Road.due("length of line " + (i + 1), lines[i].length() <= 140, true);
            for (char sign : lines[i].replaceAll("'.'", "").toCharArray()) {
                if (sign == '{') {
                    starts[depth] = i;
                    depth++;
                } else if (sign == '}') {
                    depth--;
                    boolean isMethod = lines[starts[depth]].contains("(") && !lines[starts[depth]].contains("class ");
                    Road.due("lines of " + lines[starts[depth]], isMethod && i - starts[depth] > 60, false);
                }
            }
        }
        Road.due("braces", depth, 0);
        Road.due("files", Arrays.asList(Path.of("src/main/java").toFile().list()).size(), 1);
    }
}
