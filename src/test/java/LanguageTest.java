import java.io.IOException;
import java.lang.reflect.Constructor;
import java.lang.reflect.Field;
import java.lang.reflect.Method;
import java.lang.reflect.Modifier;
import java.nio.file.Files;
import java.nio.file.Path;
import java.util.ArrayList;
import java.util.Arrays;
import java.util.List;
import java.util.Set;
import java.util.TreeSet;
import java.util.regex.Matcher;
import java.util.regex.Pattern;
import java.util.stream.Collectors;

/** The face that the document prints, and those rules of LANGUAGE.md that can be seen in the source. */
public final class LanguageTest {
    private static int wrong = 0;

    private static void holds(boolean so, String told) {
        if (!so) {
            wrong++;
            System.out.println(told);
        }
    }

    public static void main(String[] args) throws IOException {
        theFace();
        String source = Files.readString(Path.of("src/main/java/OrganDrums.java"));
        theWords(source);
        theMethods(source);
        theClasses();
        System.out.println(wrong == 0 ? "the source keeps to the rules that are looked at" : wrong + " rules are broken");
        if (wrong != 0) {
            System.exit(1);
        }
    }

    /** The methods as the document prints them, between the first "```java" and the "```" behind it. */
    private static void theFace() throws IOException {
        String doc = Files.readString(Path.of("../shared/DOC.md"));
        String face = doc.substring(doc.indexOf("```java"), doc.indexOf("```", doc.indexOf("```java") + 3));
        Set<String> due = new TreeSet<>();
        Matcher line = Pattern.compile("public (int|long) (\\w+)\\((.*?)\\);").matcher(face);
        while (line.find()) {
            String types = Arrays.stream(line.group(3).split(", ")).map(a -> a.split(" ")[0])
                    .collect(Collectors.joining(","));
            due.add(line.group(1) + " " + line.group(2) + "(" + types + ")");
        }
        Set<String> there = new TreeSet<>();
        for (Method m : OrganDrums.class.getDeclaredMethods()) {
            if (Modifier.isPublic(m.getModifiers())) {
                String types = Arrays.stream(m.getParameterTypes()).map(Class::getName).collect(Collectors.joining(","));
                there.add(m.getReturnType().getName() + " " + m.getName() + "(" + types + ")");
                holds(!Modifier.isStatic(m.getModifiers()), m.getName() + " is static");
            } else {
                holds(Modifier.isPrivate(m.getModifiers()), m.getName() + " is neither public nor private");
            }
        }
        holds(due.size() == 42, "the document prints " + due.size() + " methods");
        holds(due.equals(there), "the face is " + there + ", due is " + due);
        for (Field f : OrganDrums.class.getDeclaredFields()) {
            boolean isFace = f.getName().equals("NONE");
            holds(isFace == Modifier.isPublic(f.getModifiers()) && (isFace || Modifier.isPrivate(f.getModifiers())),
                    "the field " + f.getName());
        }
        Constructor<?>[] constructors = OrganDrums.class.getDeclaredConstructors();
        holds(constructors.length == 1 && Modifier.isPublic(constructors[0].getModifiers())
                && constructors[0].getParameterCount() == 0, "the constructor");
        holds(Modifier.isFinal(OrganDrums.class.getModifiers()), "the class is not final");
    }

    private static String bare(String source) {
        return source.replaceAll("(?s)/\\*.*?\\*/", "").replaceAll("//.*", "").replaceAll("\"[^\"\n]*\"", "\"\"")
                .replaceAll("'.'", "' '");
    }

    private static void theWords(String source) {
        String bare = bare(source);
        String[] forbidden = {"\\bthrow\\b", "\\bthrows\\b", "\\btry\\b", "\\bcatch\\b", "\\bsynchronized\\b", "\\bassert\\b",
            "->", "::", "\\bpackage\\b", "\\bimport\\b", "Exact\\b", "\\bSystem\\b", "\\bObject\\b", "\\bvar\\b",
            "\\bprotected\\b", "\\bnative\\b", "\\bvolatile\\b", "\\btransient\\b", "\\bdouble\\b", "\\bfloat\\b",
            "\\bequals\\b", "\\bhashCode\\b", "\\btoString\\b", "\\bstatic \\{", "while \\(true\\)", "for \\(;;",
            "\\bInteger\\.(?!bitCount)", "\\bMath\\.(?!max|min)", "\\[\\]\\[\\]"};
        for (String word : forbidden) {
            Matcher found = Pattern.compile(word).matcher(bare);
            holds(!found.find(), "the source has " + word);
        }
        Matcher statics = Pattern.compile("static (?!final)[\\w\\[\\]]+ \\w+ ?[=;]").matcher(bare);
        holds(!statics.find(), "a static field is not final");
        for (int i = 0; i < source.length(); i++) {
            holds(source.charAt(i) < 127 && (source.charAt(i) >= 32 || source.charAt(i) == '\n'), "a sign beyond 126");
        }
    }

    /** A method begins with its head and ends with the brace that has its indentation. */
    private static void theMethods(String source) {
        List<String> lines = new ArrayList<>(Arrays.asList(source.split("\n")));
        Pattern head = Pattern.compile("^( {4}| {8})([a-zA-Z][\\w\\[\\] ]*\\((.*)\\) \\{)$");
        int methods = 0;
        for (int i = 0; i < lines.size(); i++) {
            Matcher m = head.matcher(lines.get(i));
            if (m.matches()) {
                methods++;
                int end = i;
                while (!lines.get(end).equals(m.group(1) + "}")) {
                    end++;
                }
                holds(end - i < 60, m.group(2) + " has " + (end - i + 1) + " lines");
                holds(m.group(3).split(",").length <= 7, m.group(2) + " takes more than seven");
            }
            holds(lines.get(i).length() <= 120, "line " + (i + 1) + " is longer than 120");
        }
        holds(methods > 100, "only " + methods + " methods were seen");
    }

    private static void theClasses() {
        Set<String> face = new TreeSet<>();
        for (Method m : OrganDrums.class.getDeclaredMethods()) {
            if (Modifier.isPublic(m.getModifiers())) {
                face.add(m.getName());
            }
        }
        Class<?>[] inside = OrganDrums.class.getDeclaredClasses();
        holds(inside.length <= 11, "there are " + inside.length + " classes inside");
        for (Class<?> c : inside) {
            holds(Modifier.isStatic(c.getModifiers()), c + " is not static");
            holds(!Modifier.isPublic(c.getModifiers()), c + " is public");
            for (Method m : c.getDeclaredMethods()) {
                holds(!face.contains(m.getName()), c + " has a method with the name " + m.getName());
            }
        }
        List<Class<?>> all = new ArrayList<>(Arrays.asList(inside));
        all.add(OrganDrums.class);
        for (Class<?> c : all) {
            int fields = 0;
            for (Field f : c.getDeclaredFields()) {
                fields += Modifier.isStatic(f.getModifiers()) ? 0 : 1;
            }
            holds(fields <= 20, c + " has " + fields + " fields");
        }
    }
}
