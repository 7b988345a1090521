import java.lang.reflect.Constructor;
import java.lang.reflect.Field;
import java.lang.reflect.Method;
import java.lang.reflect.Modifier;
import java.nio.file.Files;
import java.nio.file.Path;
import java.util.Arrays;
import java.util.HashSet;
import java.util.Set;
import java.util.regex.Matcher;
import java.util.regex.Pattern;

/** What of LANGUAGE.md can be seen by looking: the face, and words that the source must not hold. */
public final class LanguageTest {
    private static final String FACE = "int status();long top();long bottom();boolean tray(int,int,int);boolean write(int,int,long);"
        + "long read(int,int);boolean pour(int,int,int,int,int);int feed(int,int,int,int,int);int port(int);int nights(int);"
        + "int fault(int);int many(int);int gate(int,int);int votes(int);int trade(int,int);int ship(int,int);int fog(int,int,int);"
        + "int foggy(int,int);int copyFog(int);int hour(int);boolean open(int,boolean);boolean openBy(int,int);boolean wind(int);"
        + "int sweep(int,int);int breathe(int,int,int,int);boolean tow(int,int,int);int later(int,int,int);int lifts(int,int);"
        + "int comes(int,int);int foggyIn(int);int thickest(int);int served();int paid();int plan();int planSet();int turn(int);"
        + "int turnSet(int,int);int way(int,int,int,int,int);int sail(int);int watch(int,int,int,int);int together(int,int);"
        + "int fewest(int);int fewestSet(int);boolean power(int,int);int veto(int);int idle(int);int reach(int);int fits(int,int);"
        + "int known(int,int,int);int next(int,int);boolean chance(int,int,int,int);int live(int);int lived(int);"
        + "boolean mean(int,int);int mark();int back();";

    public static void main(String[] args) throws Exception {
        Set<String> face = new HashSet<>(Arrays.asList(FACE.split(";")));
        Set<String> names = new HashSet<>();
        for (String method : face) {
            names.add(method.substring(method.indexOf(' ') + 1, method.indexOf('(')));
        }
        checkFace(face, names);
        checkClasses(names);
        checkSource(Files.readString(Path.of("src/main/java/FogKeys.java")));
        Kit.end();
    }

    private static void checkFace(Set<String> face, Set<String> names) {
        int open = 0;
        Kit.due("FogKeys is public and final", FogKeys.class.getModifiers(), Modifier.PUBLIC | Modifier.FINAL);
        for (Method m : FogKeys.class.getDeclaredMethods()) {
            boolean isPrivate = Modifier.isPrivate(m.getModifiers());
            String told = m.toGenericString().replaceAll("^public |FogKeys\\.| ?throws.*", "");
            if (!isPrivate) {
                open++;
                Kit.due("the face has " + told, face.contains(told), true);
            } else {
                Kit.due("a private method is named " + m.getName(), names.contains(m.getName()), false);
            }
            Kit.due(m.getName() + " takes seven at most", m.getParameterCount() <= 7, true);
        }
        Kit.due("methods of the face", open, face.size());
        for (Constructor<?> c : FogKeys.class.getDeclaredConstructors()) {
            Kit.due("the constructor", c.getParameterCount(), 0);
            Kit.due("the constructor is public", Modifier.isPublic(c.getModifiers()), true);
        }
        int fields = 0;
        for (Field f : FogKeys.class.getDeclaredFields()) {
            fields += Modifier.isStatic(f.getModifiers()) ? 0 : 1;
            Kit.due("field " + f.getName(), Modifier.isPrivate(f.getModifiers()), !f.getName().equals("NONE"));
        }
        Kit.due("FogKeys has some twenty fields: " + fields, fields <= 20, true);
    }

    private static void checkClasses(Set<String> names) {
        Class<?>[] inner = FogKeys.class.getDeclaredClasses();
        Kit.due("twelve classes at most", inner.length + 1 <= 12, true);
        for (Class<?> c : inner) {
            int fields = 0;
            Kit.due(c.getName() + " is static", Modifier.isStatic(c.getModifiers()), true);
            for (Field f : c.getDeclaredFields()) {
                fields += Modifier.isStatic(f.getModifiers()) ? 0 : 1;
                Kit.due(f + " is final if static", !Modifier.isStatic(f.getModifiers()) || Modifier.isFinal(f.getModifiers()), true);
            }
            Kit.due(c.getName() + " has some twenty fields: " + fields, fields <= 20, true);
            for (Method m : c.getDeclaredMethods()) {
                Kit.due("a method inside is named " + m.getName(), names.contains(m.getName()), false);
                Kit.due(m.getName() + " takes seven at most", m.getParameterCount() <= 7, true);
            }
        }
    }

    private static void checkSource(String source) {
        String plain = source.replaceAll("//[^\n]*", "").replaceAll("(?s)/\\*.*?\\*/", "").replaceAll("\"[^\"]*\"", "\"\"");
        String[] none = {"\\bthrow\\b", "\\btry\\b", "\\bcatch\\b", "\\bsynchronized\\b", "\\bassert\\b", "->", "::", "Exact\\(",
            "\\bpackage\\b", "\\bprotected\\b", "\\bnew \\w+\\(\\) \\{", "\\bstatic \\{", "\\bvar\\b", "\\bchar\\[\\]\\[\\]",
            "\\bString\\[", "\\b(System\\.(?!arraycopy))", "\\bhashCode\\b", "\\btoString\\b", "\\bThread\\b", "\" *\\+", "\\+ *\"",
            "\\bdouble\\b", "\\bfloat\\b", "\\bfinal boolean\\[\\] \\w+ = \\{"};
        for (String word : none) {
            Matcher m = Pattern.compile(word).matcher(plain);
            Kit.due("the source holds " + word, m.find(), false);
        }
        Matcher imports = Pattern.compile("import ([\\w.]+);").matcher(plain);
        while (imports.find()) {
            Kit.due("import of " + imports.group(1), imports.group(1).equals("java.util.Arrays"), true);
        }
        Matcher library = Pattern.compile("\\b(Arrays|Math|Integer|System)\\.(\\w+)").matcher(plain);
        Set<String> known = Set.of("Arrays.fill", "Math.min", "Math.max", "Math.abs", "Integer.bitCount", "System.arraycopy");
        while (library.find()) {
            Kit.due("use of " + library.group(), known.contains(library.group()), true);
        }
        checkLines(source);
    }

    private static void checkLines(String source) {
        String end = null;
        int begun = 0;
        String[] lines = source.split("\n");
        for (int n = 0; n < lines.length; n++) {
            String line = lines[n];
            if (line.matches(" {4}( {4})?\\w.*\\) \\{") && end == null) {
                begun = n;
                end = line.replaceAll("\\S.*", "") + "}";
            } else if (line.equals(end)) {
                Kit.due("a method stays short: " + lines[begun].trim() + " " + (n - begun), n - begun <= 60, true);
                end = null;
            }
            for (int i = 0; i < line.length(); i++) {
                Kit.due("signs 1 to 127", line.charAt(i) > 0 && line.charAt(i) < 128, true);
            }
            boolean isMade = end != null && line.contains("new ") && !lines[begun].contains("public FogKeys()");
            Kit.due("made outside a constructor: " + line, isMade, false);
        }
    }
}
