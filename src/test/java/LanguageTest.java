import java.io.IOException;
import java.lang.reflect.Constructor;
import java.lang.reflect.Field;
import java.lang.reflect.Method;
import java.lang.reflect.Modifier;
import java.nio.file.Files;
import java.nio.file.Path;
import java.util.ArrayList;
import java.util.HashSet;
import java.util.List;
import java.util.Set;
import java.util.TreeSet;
import java.util.regex.Matcher;
import java.util.regex.Pattern;

/** The face against the document's, and the source against what LANGUAGE.md forbids. */
public final class LanguageTest {
    private static int wrong = 0;

    public static void main(String[] args) throws IOException {
        Path root = Path.of(args.length > 0 ? args[0] : ".");
        face(Files.readString(root.resolve("../shared/DOC.md")));
        members();
        String source = Files.readString(root.resolve("src/main/java/DyeStreets.java"));
        words(code(source));
        sizes(code(source));
        System.out.println("LanguageTest: " + wrong + " wrong");
        if (wrong != 0) {
            System.exit(1);
        }
    }

    private static void bad(String what) {
        wrong++;
        System.out.println(what);
    }

    // ---- rule 1

    private static void face(String doc) {
        Set<String> due = new TreeSet<>();
        Matcher m = Pattern.compile("    public (\\w+) (\\w+)\\(([^)]*)\\)(?: throws ([\\w, ]+))?;").matcher(doc);
        while (m.find()) {
            String types = m.group(3).replaceAll("(\\w+) \\w+", "$1").replace(" ", "");
            String thrown = m.group(4) == null ? "" : m.group(4).replace(" ", "");
            due.add(m.group(1) + " " + m.group(2) + "(" + types + ") " + thrown);
        }
        Set<String> there = new TreeSet<>();
        for (Method one : DyeStreets.class.getDeclaredMethods()) {
            if (!Modifier.isPrivate(one.getModifiers())) {
                there.add(one.getReturnType() + " " + one.getName() + "(" + names(one.getParameterTypes()) + ") "
                        + names(one.getExceptionTypes()));
                if (one.getModifiers() != Modifier.PUBLIC) {
                    bad("not just public: " + one);
                }
            }
        }
        if (due.size() != 38) {
            bad("the document's face has " + due.size() + " methods");
        }
        if (!due.equals(there)) {
            bad("the face is " + there + ", due is " + due);
        }
        for (Constructor<?> one : DyeStreets.class.getDeclaredConstructors()) {
            if (!Modifier.isPublic(one.getModifiers()) || one.getParameterCount() != 0) {
                bad("constructor " + one);
            }
        }
    }

    private static String names(Class<?>[] types) {
        List<String> all = new ArrayList<>();
        for (Class<?> one : types) {
            all.add(one.getSimpleName());
        }
        return String.join(",", all);
    }

    private static void members() {
        Set<String> open = new HashSet<>();
        for (Method one : DyeStreets.class.getDeclaredMethods()) {
            if (Modifier.isPublic(one.getModifiers())) {
                open.add(one.getName());
            }
        }
        for (Field one : DyeStreets.class.getDeclaredFields()) {
            boolean none = one.getName().equals("NONE");
            if (none != Modifier.isPublic(one.getModifiers()) || none == Modifier.isPrivate(one.getModifiers())) {
                bad("field " + one);
            }
        }
        List<Class<?>> all = new ArrayList<>(List.of(DyeStreets.class.getDeclaredClasses()));
        if (all.size() > 12) {
            bad(all.size() + " classes");
        }
        all.add(DyeStreets.class);
        for (Class<?> one : all) {
            int fields = 0;
            for (Field f : one.getDeclaredFields()) {
                fields += Modifier.isStatic(f.getModifiers()) ? 0 : 1;
                if (Modifier.isStatic(f.getModifiers()) && !Modifier.isFinal(f.getModifiers())) {
                    bad("static and not final: " + f);
                }
            }
            if (fields > 20) {
                bad(one + " has " + fields + " fields");
            }
            for (Method m : one.getDeclaredMethods()) {
                if (m.getParameterCount() > 7) {
                    bad("parameters: " + m);
                }
                boolean isOpen = one == DyeStreets.class && Modifier.isPublic(m.getModifiers());
                if (!isOpen && open.contains(m.getName())) {
                    bad("a name of the face: " + m);
                }
            }
            if (one != DyeStreets.class && !Modifier.isStatic(one.getModifiers())) {
                bad("not static: " + one);
            }
        }
    }

    // ---- rules 3 to 12

    /** The source without what comments and texts hold. */
    private static String code(String source) {
        for (int k = 0; k < source.length(); k++) {
            char c = source.charAt(k);
            if (c > 126 || c < 32 && c != '\n') {
                bad("sign " + (int) c + " at " + k);
            }
        }
        return source.replaceAll("(?s)/\\*.*?\\*/", "").replaceAll("//[^\n]*", "").replaceAll("\"[^\"\n]*\"", "\"\"");
    }

    private static void words(String code) {
        String[] never = {"->", "::", "\\btry\\b", "\\bcatch\\b", "\\bfinally\\b", "\\bsynchronized\\b", "\\bassert\\b",
            "Exact\\b", "\\binstanceof\\b", "\\bvar\\b", "\\bObject\\b", "\\bThread\\b", "\\bSystem\\b", "\\bvolatile\\b",
            "\\bpackage\\b", "\\bprotected\\b", "\\bdouble\\b", "\\bfloat\\b", "\"\" *\\+", "\\+ *\"\"", "\\bimport static\\b",
            "\\bequals\\b", "\\bhashCode\\b", "\\btoString\\b", "\\bnull\\b", "static \\{", "\\bwhile \\(true\\)", "for \\(;;\\)"};
        for (String word : never) {
            Matcher m = Pattern.compile(word).matcher(code);
            if (m.find()) {
                bad("forbidden, or not looked for here: " + word);
            }
        }
        Matcher imports = Pattern.compile("import ([\\w.]+);").matcher(code);
        while (imports.find()) {
            if (!imports.group(1).equals("java.util.NoSuchElementException")) {
                bad("import " + imports.group(1));
            }
        }
        Matcher calls = Pattern.compile("\\b([A-Z]\\w*)\\.(\\w+)\\(").matcher(code);
        while (calls.find()) {
            if (!Set.of("Math.min", "Math.max", "Math.abs", "Integer.bitCount").contains(calls.group(1) + "." + calls.group(2))) {
                bad("library call " + calls.group());
            }
        }
        Matcher thrown = Pattern.compile("throw [^;]*;").matcher(code);
        while (thrown.find()) {
            if (!thrown.group().matches("throw new (IllegalArgument|NoSuchElement)Exception\\(\\);")) {
                bad(thrown.group());
            }
        }
        // every place that uses an index, but declarations, which hold none
        Matcher index = Pattern.compile("(\\w+)\\[(\\w[^\\]]*)\\]").matcher(code);
        Set<String> tested = Set.of("row[k]", "tape[k]", "tape[here]", "cells[k]");
        while (index.find()) {
            if (!tested.contains(index.group()) && !index.group(1).equals("int")) {
                bad("an index that is not known to be tested: " + index.group());
            }
        }
        divisors(code);
    }

    /** A divisor is a written number, or stands in one of the lines that are known to test it. */
    private static void divisors(String code) {
        Set<String> tested = Set.of("shade += sum / many * unitOf(dye);", "int fading = year() % DYES;",
                "default: return b == 0 ? 0 : a / b;", "return by > 0 ? (seed >>> 16 & 32767) % by : 0;");
        for (String line : code.replace("'/'", "").split("\n")) {
            Matcher m = Pattern.compile("[/%]=?+ *+(?![1-9])").matcher(line);
            if (m.find() && !tested.contains(line.trim())) {
                bad("a divisor that is not known to be tested: " + line.trim());
            }
        }
    }

    private static void sizes(String code) {
        String[] lines = code.split("\n");
        int start = -1;
        String end = "";
        for (int k = 0; k < lines.length; k++) {
            Matcher m = Pattern.compile("^( {4}| {8})\\S.*\\(.*").matcher(lines[k]);
            if (start < 0 && m.find() && lines[k].endsWith("{")) {
                start = k;
                end = m.group(1) + "}";
            } else if (start >= 0 && lines[k].equals(end)) {
                if (k - start > 60) {
                    bad("a long method: " + lines[start]);
                }
                start = -1;
            }
        }
    }
}
