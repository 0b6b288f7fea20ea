import java.lang.reflect.Constructor;
import java.lang.reflect.Field;
import java.lang.reflect.Method;
import java.lang.reflect.Modifier;
import java.nio.file.Files;
import java.nio.file.Path;
import java.util.Arrays;
import java.util.HashSet;
import java.util.Set;
import java.util.TreeSet;
import java.util.regex.Matcher;
import java.util.regex.Pattern;

/** The public face, and what the text of the file shows of LANGUAGE.md's rules. */
public final class FaceTest {
    private static final String FACE = "box int int:int, row int int:int, number int:int, of int int:int, kinds int:int, "
        + "times int int int int:int, turns int int int:int, around int int int int:int, hooks int int:int, "
        + "roots int int int:int, rootsOf int int:int, term int int:int, scaled int int int:long, multiply int:int, "
        + "feed int int int int int int:int, read:int, drawn int int int:int, chance int int int int int:int, "
        + "tells int int int:int, film int int int:int, image:int, back:int, load int int int int:int, count int:int, "
        + "sheet int int int:int, put int int int:int, copy int int int int int:int";

    public static void main(String[] args) throws Exception {
        Check check = new Check("FaceTest");
        face(check);
        nested(check);
        String text = Files.readString(Path.of("src/main/java/HookBoxes.java"));
        words(check, text);
        lengths(check, text);
        document(check, Files.readString(Path.of("../shared/DOC.md")), text);
        check.end();
    }

    private static void face(Check check) {
        Class<?> c = HookBoxes.class;
        check.holds("the class is public and final", Modifier.isPublic(c.getModifiers()) && Modifier.isFinal(c.getModifiers()));
        Set<String> found = new TreeSet<>();
        Set<String> names = new HashSet<>();
        for (Method m : c.getDeclaredMethods()) {
            if (Modifier.isPrivate(m.getModifiers())) {
                continue;
            }
            check.holds(m.getName() + " is public and no static one",
                Modifier.isPublic(m.getModifiers()) && !Modifier.isStatic(m.getModifiers()));
            StringBuilder s = new StringBuilder(m.getName());
            for (Class<?> p : m.getParameterTypes()) {
                s.append(' ').append(p.getName());
            }
            found.add(s.append(':').append(m.getReturnType().getName()).toString());
            names.add(m.getName());
        }
        check.holds("the methods are those of the document: " + found, found.equals(new TreeSet<>(Arrays.asList(FACE.split(", ")))));
        for (Method m : c.getDeclaredMethods()) {
            check.holds("no private method bears a public one's name: " + m.getName(),
                Modifier.isPublic(m.getModifiers()) || !names.contains(m.getName()));
        }
        Constructor<?>[] makers = c.getDeclaredConstructors();
        check.holds("one public constructor", makers.length == 1 && Modifier.isPublic(makers[0].getModifiers())
            && makers[0].getParameterCount() == 0);
        Set<String> constants = new TreeSet<>();
        for (Field f : c.getDeclaredFields()) {
            if (!Modifier.isPrivate(f.getModifiers())) {
                check.holds(f.getName() + " is public static final", f.getModifiers() == (Modifier.PUBLIC | Modifier.STATIC | Modifier.FINAL));
                constants.add(f.getName() + ":" + f.getType().getName());
            }
            check.holds(f.getName() + ": static fields are final",
                !Modifier.isStatic(f.getModifiers()) || Modifier.isFinal(f.getModifiers()));
        }
        check.due("the constants", constants.toString().equals("[BAD:int, FULL:int, NO:long, NONE:int, STATE:int]") ? 1 : 0, 1);
        check.due("NONE", HookBoxes.NONE, -1);
        check.due("BAD", HookBoxes.BAD, -2);
        check.due("STATE", HookBoxes.STATE, -3);
        check.due("FULL", HookBoxes.FULL, -4);
        check.due("NO", HookBoxes.NO, Long.MIN_VALUE);
    }

    private static void nested(Check check) {
        Class<?>[] inside = HookBoxes.class.getDeclaredClasses();
        check.holds("twelve classes at most", inside.length + 1 <= 12);
        Set<String> faceNames = new HashSet<>();
        for (String m : FACE.split(", ")) {
            faceNames.add(m.split("[ :]")[0]);
        }
        for (Class<?> c : inside) {
            check.holds(c + " is static, not public",
                Modifier.isStatic(c.getModifiers()) && !Modifier.isPublic(c.getModifiers()));
            int fields = 0;
            for (Field f : c.getDeclaredFields()) {
                check.holds(f + ": static fields are final", !Modifier.isStatic(f.getModifiers()) || Modifier.isFinal(f.getModifiers()));
                fields += Modifier.isStatic(f.getModifiers()) ? 0 : 1;
            }
            check.holds(c + ": twenty fields at most", fields <= 20);
            for (Method m : c.getDeclaredMethods()) {
                check.holds(m + ": another name than those of the face", !faceNames.contains(m.getName()));
                check.holds(m + ": seven parameters at most", m.getParameterCount() <= 7);
            }
        }
    }

    private static void words(Check check, String text) {
        String code = text.replaceAll("(?s)/\\*.*?\\*/", " ").replaceAll("//[^\n]*", " ");
        for (String word : new String[] {"package", "throw", "try", "catch", "synchronized", "assert", "instanceof", "enum",
            "record", "protected", "float", "double", "Random", "System.out", "System.err", "Thread", "Object", "nanoTime",
            "currentTimeMillis", "Scanner", "Exact", "hashCode", "toString", "equals", "volatile", "transient", "native"}) {
            check.holds("no " + word, !Pattern.compile("(?<![A-Za-z])" + Pattern.quote(word) + "(?![A-Za-z])").matcher(code).find());
        }
        check.holds("no lambda", !code.contains("->"));
        check.holds("no method reference", !code.contains("::"));
        check.holds("no endless loop", !code.contains("while (true)") && !code.contains("for (;;)"));
        check.holds("one public class", code.split("public\\s+(final\\s+)?class").length == 2);
        Matcher imports = Pattern.compile("import\\s+([^;]+);").matcher(code);
        while (imports.find()) {
            check.holds("import " + imports.group(1), imports.group(1).equals("java.util.Arrays"));
        }
        Matcher calls = Pattern.compile("\\b(Arrays|System|Math|Integer|Long)\\.(\\w+)").matcher(code);
        Set<String> allowed = Set.of("Arrays.fill", "System.arraycopy", "Math.min", "Math.max", "Math.abs", "Math.floorMod",
            "Integer.compare", "Integer.bitCount", "Integer.MIN_VALUE", "Long.MIN_VALUE");
        while (calls.find()) {
            check.holds(calls.group(), allowed.contains(calls.group()));
        }
        for (int at = 0; at < text.length(); at++) {
            check.holds("signs 1 to 127 alone", text.charAt(at) < 128);
        }
    }

    private static void lengths(Check check, String text) {
        Matcher bodies = Pattern.compile("(?ms)^( {4}| {8})(?:public|private|static|int|boolean|void|long|[A-Z]\\w*\\()"
            + "[^;{}=]*\\) \\{\n(.*?)^\\1\\}$").matcher(text);
        int many = 0;
        while (bodies.find()) {
            many++;
            check.holds("some sixty lines at most: " + bodies.group(), bodies.group(2).split("\n").length <= 60);
        }
        check.holds("bodies are found: " + many, many > 80);
    }

    /** Each line of the document's face, and each of its heads with just the calls behind it, stand in the file. */
    private static void document(Check check, String doc, String text) {
        int faced = doc.indexOf("public final class HookBoxes {");
        int lines = 0;
        for (String line : doc.substring(faced, doc.indexOf("```", faced)).split("\n")) {
            String told = line.trim();
            if (told.startsWith("public ")) {
                String due = told.endsWith(");") ? told.substring(0, told.length() - 1) + " {" : told;
                check.holds(told, text.contains(due + "\n"));
                lines++;
            }
        }
        check.due("lines of the face", lines, 31);
        Matcher heads = Pattern.compile("Ahead of the calls (.*?) the interface says: (---- .*?)\\.\n").matcher(doc);
        int headed = 0;
        while (heads.find()) {
            int from = text.indexOf("// " + heads.group(2) + "\n");
            check.holds(heads.group(2), from >= 0);
            if (from < 0) {
                continue;
            }
            int end = text.indexOf("// ----", from + 1);
            StringBuilder calls = new StringBuilder();
            Matcher call = Pattern.compile("(?m)^    public \\w+ (\\w+)\\(")
                .matcher(text.substring(from, end < 0 ? text.length() : end));
            while (call.find()) {
                calls.append(calls.length() == 0 ? "`" : ", `").append(call.group(1)).append('`');
            }
            check.holds(heads.group(2) + " stands ahead of " + heads.group(1) + ", not of " + calls,
                calls.toString().equals(heads.group(1)));
            headed++;
        }
        check.due("heads", headed, 5);
    }
}
