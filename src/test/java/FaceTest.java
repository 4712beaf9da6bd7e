import java.lang.reflect.Constructor;
import java.lang.reflect.Field;
import java.lang.reflect.Method;
import java.lang.reflect.Modifier;
import java.nio.file.Files;
import java.nio.file.Path;
import java.util.Arrays;
import java.util.Set;
import java.util.TreeSet;
import java.util.regex.Matcher;
import java.util.regex.Pattern;
import java.util.stream.Collectors;

/** The face is the document's and no more, and the source keeps to what LANGUAGE.md leaves. */
public final class FaceTest {
    public static void main(String[] args) throws Exception {
        faceIsTheDocuments();
        headingsAreTheDocuments();
        membersAreHidden();
        sizesAreSmall();
        sourceKeepsToTheLanguage(plainSource());
        Due.finish();
    }

    private static void faceIsTheDocuments() throws Exception {
        String doc = Files.readString(Path.of("../shared/DOC.md"));
        String face = doc.substring(doc.indexOf("```java"), doc.indexOf("}\n```"));
        Set<String> want = new TreeSet<>();
        Matcher line = Pattern.compile("public (\\w+ \\w+)\\(([^)]*)\\);").matcher(face);
        while (line.find()) want.add(line.group(1) + " " + line.group(2).replaceAll(" \\w+(,|$)", "$1"));
        Due.is("methods in the document", 35, want.size());
        Set<String> got = new TreeSet<>();
        for (Method m : CornerTax.class.getDeclaredMethods()) {
            if (Modifier.isPublic(m.getModifiers())) {
                Due.holds(m + " is the object's", !Modifier.isStatic(m.getModifiers()));
                got.add(m.getReturnType() + " " + m.getName() + " "
                    + Arrays.stream(m.getParameterTypes()).map(Class::getName).collect(Collectors.joining(", ")));
            }
        }
        Due.holds("the face is " + want + ", found " + got, want.equals(got));
        Constructor<?>[] makers = CornerTax.class.getDeclaredConstructors();
        Due.is("constructors", 1, makers.length);
        Due.holds("public constructor", Modifier.isPublic(makers[0].getModifiers()) && makers[0].getParameterCount() == 0);
        int modifiers = CornerTax.class.getModifiers();
        Due.holds("public and final", Modifier.isPublic(modifiers) && Modifier.isFinal(modifiers));
    }

    /** Each "Ahead of the calls .." of the document's Terms: these calls, in this order, behind this heading. */
    private static void headingsAreTheDocuments() throws Exception {
        String doc = Files.readString(Path.of("../shared/DOC.md"));
        String source = Files.readString(Path.of("src/main/java/CornerTax.java"));
        Matcher said = Pattern.compile("Ahead of the calls (.*) the interface says: (---- [^.\n]+)\\.").matcher(doc);
        int headings = 0;
        while (said.find()) {
            headings++;
            String want = said.group(1).replaceAll("[`,]", "");
            int from = source.indexOf("    // " + said.group(2) + "\n");
            Due.holds("the class has the heading " + said.group(2), from >= 0);
            int to = source.indexOf("    // ----", from + 1);
            Matcher call = Pattern.compile("\n    public \\w+ (\\w+)\\(").matcher(source.substring(Math.max(0, from), Math.max(0, to)));
            StringBuilder got = new StringBuilder();
            while (call.find()) got.append(got.isEmpty() ? "" : " ").append(call.group(1));
            Due.holds(said.group(2) + ": " + want + ", found " + got, want.contentEquals(got));
        }
        Due.is("headings in the document", 7, headings);
    }

    private static Set<String> publicNames() {
        Set<String> names = new TreeSet<>();
        for (Method m : CornerTax.class.getDeclaredMethods()) {
            if (Modifier.isPublic(m.getModifiers())) names.add(m.getName());
        }
        return names;
    }

    private static void membersAreHidden() {
        Set<String> face = publicNames();
        for (Method m : CornerTax.class.getDeclaredMethods()) {
            int mods = m.getModifiers();
            Due.holds(m + " is public or private", Modifier.isPublic(mods) || Modifier.isPrivate(mods));
            if (Modifier.isPrivate(mods)) Due.holds(m + " has a name of its own", !face.contains(m.getName()));
        }
        for (Field f : CornerTax.class.getDeclaredFields()) {
            Due.holds(f + " is private", Modifier.isPrivate(f.getModifiers()));
        }
        for (Class<?> c : CornerTax.class.getDeclaredClasses()) {
            int mods = c.getModifiers();
            Due.holds(c + " is hidden", !Modifier.isPublic(mods) && !Modifier.isProtected(mods));
            Due.holds(c + " is static", Modifier.isStatic(mods));
            for (Method m : c.getDeclaredMethods()) {
                Due.holds(m + " has a name of its own", !face.contains(m.getName()));
            }
        }
    }

    private static void sizesAreSmall() {
        Class<?>[] inside = CornerTax.class.getDeclaredClasses();
        Due.holds("twelve classes at most", inside.length + 1 <= 12);
        for (int k = -1; k < inside.length; k++) {
            Class<?> c = k < 0 ? CornerTax.class : inside[k];
            int fields = 0;
            for (Field f : c.getDeclaredFields()) {
                if (Modifier.isStatic(f.getModifiers())) {
                    Due.holds(f + " is a constant", Modifier.isFinal(f.getModifiers()));
                } else {
                    fields++;
                }
            }
            Due.holds(c + " has twenty fields at most", fields <= 20);
            for (Method m : c.getDeclaredMethods()) {
                Due.holds(m + " takes seven at most", m.getParameterCount() <= 7);
            }
        }
    }

    /** The source without comments, texts and signs. */
    private static String plainSource() throws Exception {
        String source = Files.readString(Path.of("src/main/java/CornerTax.java"));
        return source.replaceAll("(?s)/\\*.*?\\*/", "").replaceAll("//[^\n]*", "")
            .replaceAll("\"[^\"\n]*\"", "\"\"").replaceAll("'[^'\n]+'", "0");
    }

    private static void sourceKeepsToTheLanguage(String source) {
        String[] banned = {"throw", "throws", "try", "catch", "finally", "synchronized", "assert", "package",
            "protected", "volatile", "transient", "native", "strictfp", "Object", "System.out", "Exact",
            "hashCode", "toString", "getClass", "Random", "Thread", "double", "float"};
        for (String word : banned) {
            Due.holds("no " + word, !Pattern.compile("\\b" + Pattern.quote(word) + "\\b").matcher(source).find());
        }
        for (String sign : new String[] {"->", "::", "Exact("}) Due.holds("no " + sign, !source.contains(sign));
        Due.holds("no block of a class", !Pattern.compile("static\\s*\\{").matcher(source).find());
        Matcher imports = Pattern.compile("import ([^;]+);").matcher(source);
        while (imports.find()) {
            Due.holds("import " + imports.group(1), Set.of("java.util.Arrays", "java.util.ArrayList", "java.util.List").contains(imports.group(1)));
        }
        Matcher library = Pattern.compile("\\b(Arrays|System|Math|Integer|Long)\\.(\\w+)").matcher(source);
        Set<String> leave = Set.of("Arrays.fill", "System.arraycopy", "Math.min", "Math.max", "Math.abs",
            "Integer.bitCount", "Long.bitCount");
        while (library.find()) Due.holds(library.group() + " is in the library left", leave.contains(library.group()));
        int length = 0;
        for (String line : source.split("\n")) {
            boolean ends = line.equals("    }") || line.equals("        }");
            length = ends || line.isBlank() ? 0 : length + 1;
            Due.holds("methods are short: " + line, length <= 60);
        }
    }
}
