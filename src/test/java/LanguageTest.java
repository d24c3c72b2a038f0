import java.lang.reflect.Constructor;
import java.lang.reflect.Executable;
import java.lang.reflect.Field;
import java.lang.reflect.Method;
import java.lang.reflect.Modifier;
import java.nio.charset.StandardCharsets;
import java.nio.file.Files;
import java.nio.file.Path;
import java.util.ArrayList;
import java.util.Arrays;
import java.util.List;
import java.util.Set;
import java.util.TreeSet;
import java.util.regex.Matcher;
import java.util.regex.Pattern;

/** Those rules of ../shared/LANGUAGE.md that can be looked up in the source or in the class; run in the project's folder. */
public final class LanguageTest {
    private static final String FACE = "table told feed rule player of rest gap weight reply odds leak kick clear does shows"
        + " likely team win at order judge image undo act trace taken count tape item read shift";

    private static int wrong = 0;

    private static void must(boolean holds, String what) {
        if (!holds) {
            wrong++;
            System.out.println("LANGUAGE.md: " + what);
        }
    }

    public static void main(String[] args) throws Exception {
        String source = Files.readString(Path.of("src/main/java/ElevenYards.java"), StandardCharsets.ISO_8859_1);
        List<Class<?>> classes = new ArrayList<>(List.of(ElevenYards.class));
        classes.addAll(Arrays.asList(ElevenYards.class.getDeclaredClasses()));
        face();
        for (Class<?> one : classes) members(one);
        must(classes.size() <= 12, "rule 11: " + classes.size() + " classes");
        signs(source);
        String code = source.replaceAll("(?s)/\\*.*?\\*/", "").replaceAll("//[^\n]*", "");
        words(code.replaceAll("\"[^\"\n]*\"", "\"\""));
        methodLengths(source);
        if (wrong > 0) System.exit(1);
    }

    private static void face() {
        Set<String> names = new TreeSet<>();
        for (Method method : ElevenYards.class.getDeclaredMethods()) {
            if (Modifier.isPublic(method.getModifiers())) names.add(method.getName());
            else must(Modifier.isPrivate(method.getModifiers()), "rule 1: visible " + method);
        }
        must(names.equals(new TreeSet<>(Arrays.asList(FACE.split(" ")))), "rule 1: the face's methods are " + names);
        names.clear();
        for (Field field : ElevenYards.class.getDeclaredFields()) {
            if (!Modifier.isPrivate(field.getModifiers())) names.add(field.getName());
        }
        must(names.equals(new TreeSet<>(List.of("NONE", "BAD", "STATE", "FULL", "NO"))), "rule 1: the face's fields are " + names);
        for (Constructor<?> made : ElevenYards.class.getDeclaredConstructors()) {
            must(Modifier.isPublic(made.getModifiers()) && made.getParameterCount() == 0, "rule 1: " + made);
        }
        must(Modifier.isFinal(ElevenYards.class.getModifiers()), "rule 1: the class is final");
    }

    private static void members(Class<?> one) {
        boolean outer = one == ElevenYards.class;
        must(outer || Modifier.isStatic(one.getModifiers()), "rule 2: not static: " + one);
        must(outer || !Modifier.isPublic(one.getModifiers()), "rule 1: public: " + one);
        List<Executable> bodies = new ArrayList<>(Arrays.asList(one.getDeclaredMethods()));
        bodies.addAll(Arrays.asList(one.getDeclaredConstructors()));
        List<String> face = Arrays.asList(FACE.split(" "));
        for (Executable body : bodies) {
            boolean ofFace = outer && Modifier.isPublic(body.getModifiers());
            must(ofFace || !face.contains(body.getName()), "rule 1: bears a name of the face: " + body);
            must(ofFace || body.getParameterCount() <= 7, "rule 11: parameters of " + body);
            must(!body.isSynthetic(), "rule 2: made by the compiler: " + body);
        }
        int fields = 0;
        for (Field field : one.getDeclaredFields()) {
            boolean still = Modifier.isStatic(field.getModifiers());
            fields += still ? 0 : 1;
            must(!still || Modifier.isFinal(field.getModifiers()), "rule 5: " + field);
        }
        must(fields <= 20, "rule 11: fields of " + one);
    }

    private static void signs(String source) {
        for (int i = 0; i < source.length(); i++) {
            char sign = source.charAt(i);
            must(sign == '\n' || sign >= ' ' && sign < 127, "sign " + (int) sign + " at " + i);
        }
        must(!source.contains("package "), "no package line");
    }

    private static void words(String code) {
        String[] none = {"\\bthrow\\b", "\\bthrows\\b", "\\btry\\b", "\\bcatch\\b", "\\bfinally\\b", "\\bsynchronized\\b",
            "\\bassert\\b", "->", "::", "@", "\\bstatic\\s*\\{", "\\bvar\\b", "\\bthread\\b", "\\bThread\\b", "Exact\\b",
            "\\bequals\\(", "\\bhashCode\\b", "\\btoString\\b", "\\bwhile\\s*\\(true\\)", "\\bfor\\s*\\(\\s*;", "\\bprotected\\b"};
        for (String word : none) must(!Pattern.compile(word).matcher(code).find(), "not to be used: " + word);
        Matcher imports = Pattern.compile("import ([^;]*);").matcher(code);
        while (imports.find()) must(imports.group(1).equals("java.util.Arrays"), "rule 4: " + imports.group(1));
        Matcher library = Pattern.compile("\\b(System|Arrays|Math|Integer|Long)\\.(\\w+)").matcher(code);
        List<String> may = List.of("System.arraycopy", "Arrays.fill", "Math.min", "Math.max", "Math.abs", "Long.MIN_VALUE");
        while (library.find()) must(may.contains(library.group()), "rule 4: " + library.group());
        must(!Pattern.compile("\\]\\s*\\[\\s*\\]\\s*\\[").matcher(code).find(), "rule 3: three dimensions");
    }

    /** Counts the lines from where a method opens to where it closes, by how far they are moved in. */
    private static void methodLengths(String source) {
        String[] lines = source.split("\n");
        for (int i = 0; i < lines.length; i++) {
            String moved = lines[i].replaceAll("\\S.*", "");
            boolean opens = lines[i].matches("\\s+[\\w\\[\\] ]+\\([\\w\\[\\], ]*\\) \\{") && !lines[i].contains(" if ");
            for (int end = i; opens && end < lines.length; end++) {
                if (lines[end].equals(moved + "}")) {
                    must(end - i < 60, "rule 11: a method of " + (end - i + 1) + " lines from line " + (i + 1));
                    opens = false;
                }
            }
        }
    }
}
