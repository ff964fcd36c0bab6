import java.lang.reflect.Field;
import java.lang.reflect.Method;
import java.lang.reflect.Modifier;
import java.nio.file.Files;
import java.nio.file.Path;
import java.util.Arrays;
import java.util.Set;
import java.util.TreeSet;
import java.util.regex.Matcher;
import java.util.regex.Pattern;

/** The rules of LANGUAGE.md that a program can see: the face, the members, the words of the source. */
public final class LanguageTest {
    private static final String FACE = "feed(int)int end(int)int text()int fault()int rule(int)int "
            + "one(int,int)int beetle(int,int)int wind(int)int meet(int,int)int alter(int,int,int)int "
            + "walk(int,int)int blow(int,int)int dab(int,int,int)int lift(int,int)int days(int)int "
            + "runs(int,int)int ahead(int,int)int where(int,int)int home(int)int shed(int,int,int)int "
            + "calm(int,int)int kind(int,int)int swap(int,int)int need(int,int,int)int off(int,int,int)int "
            + "luck(int,int,int,int)long mean(int,int,int,int)long see(int,int,int)int forget(int)int "
            + "owners(int)int kinds(int)int ask(int,int)int drift(int,int,int)int keep(int)int back(int)int "
            + "sheet(int,int,int)int lay(int,int,int)int read(int,int,int,int)int torn()int count(int)int";

    public static void main(String[] args) throws Exception {
        face();
        for (Class<?> inside : SorrowSpots.class.getDeclaredClasses()) {
            Due.is(inside + " is static", Modifier.isStatic(inside.getModifiers()) ? 1 : 0, 1);
            members(inside);
        }
        members(SorrowSpots.class);
        Due.is("twelve classes at most", SorrowSpots.class.getDeclaredClasses().length <= 11 ? 1 : 0, 1);
        String source = withoutCommentsAndTexts(Files.readString(Path.of("src/main/java/SorrowSpots.java")));
        words(source);
        lengths(source);
        objects(source);
        Due.end("LanguageTest");
    }

    private static void face() throws Exception {
        Due.is("final", Modifier.isFinal(SorrowSpots.class.getModifiers()) ? 1 : 0, 1);
        Set<String> due = new TreeSet<>(Arrays.asList(FACE.split(" ")));
        Set<String> got = new TreeSet<>();
        for (Method m : SorrowSpots.class.getDeclaredMethods()) {
            if (!Modifier.isPrivate(m.getModifiers())) {
                StringBuilder types = new StringBuilder();
                for (Class<?> type : m.getParameterTypes()) {
                    types.append(types.length() == 0 ? "" : ",").append(type);
                }
                got.add(m.getName() + "(" + types + ")" + m.getReturnType());
                Due.is(m + " is public", Modifier.isPublic(m.getModifiers()) ? 1 : 0, 1);
            }
        }
        Due.is("methods: " + got, got.equals(due) ? 1 : 0, 1);
        int constants = 0;
        for (Field f : SorrowSpots.class.getDeclaredFields()) {
            if (!Modifier.isPrivate(f.getModifiers())) {
                constants++;
            }
        }
        Due.is("constants", constants, 4);
        Due.is("BAD", SorrowSpots.BAD, -1);
        Due.is("STATE", SorrowSpots.STATE, -2);
        Due.is("FULL", SorrowSpots.FULL, -3);
        Due.is("NONE", SorrowSpots.NONE, -4);
        Due.is("constructors", SorrowSpots.class.getConstructors().length, 1);
    }

    private static void members(Class<?> inside) {
        int fields = 0;
        for (Field f : inside.getDeclaredFields()) {
            if (Modifier.isStatic(f.getModifiers())) {
                Due.is(f + " is final", Modifier.isFinal(f.getModifiers()) ? 1 : 0, 1);
            } else {
                fields++;
            }
        }
        Due.is(inside + " has some twenty fields at most", fields <= 20 ? 1 : 0, 1);
        for (Method m : inside.getDeclaredMethods()) {
            Due.is(m + " takes seven at most", m.getParameterCount() <= 7 ? 1 : 0, 1);
            boolean hasPublicName = (" " + FACE).contains(" " + m.getName() + "(");
            boolean isOfFace = inside == SorrowSpots.class && Modifier.isPublic(m.getModifiers());
            Due.is(m + " bears a public name", hasPublicName && !isOfFace ? 1 : 0, 0);
        }
    }

    private static void words(String source) {
        for (String word : new String[] {"throw", "throws", "try", "catch", "finally", "synchronized", "assert",
            "volatile", "transient", "native", "double", "float", "Object", "package", "System(?!\\.arraycopy)",
            "Math(?!\\.(min|max)\\b)", "Integer(?!\\.bitCount\\b)", "Arrays(?!\\.fill\\b|;)", "List", "Class"}) {
            Due.is("the word " + word, Pattern.compile("\\b" + word + "\\b").matcher(source).find() ? 1 : 0, 0);
        }
        Due.is("a lambda", source.contains("->") ? 1 : 0, 0);
        Due.is("a method reference", source.contains("::") ? 1 : 0, 0);
        Matcher imports = Pattern.compile("import [^;]*;").matcher(source);
        while (imports.find()) {
            Due.is(imports.group(), imports.group().equals("import java.util.Arrays;") ? 1 : 0, 1);
        }
    }

    private static void lengths(String source) {
        int begin = 0;
        int line = 0;
        for (String text : source.split("\n")) {
            line++;
            if (text.matches("( {4}| {8})(public|private)[^;=]*\\{") && !text.contains(" class ")) {
                begin = line;
            }
            if (text.matches("( {4}| {8})\\}") && begin > 0) {
                Due.is("the method of line " + begin + " is short", line - begin <= 60 ? 1 : 0, 1);
                begin = 0;
            }
        }
    }

    /** All calls of a run live in one room, so what an object needs is made with it, and never again. */
    private static void objects(String source) {
        int inFields = 0;
        int inConstructor = 0;
        for (String text : source.split("\n")) {
            if (text.matches(".*\\bnew\\b.*")) {
                boolean isField = text.matches(" {4}( {4})?private final [^;{]*= new [^;{]*;");
                inFields += isField ? 1 : 0;
                inConstructor += text.matches(" {12}(futures|images|sheets)\\[i\\] = new \\w+\\(\\);") ? 1 : 0;
            }
        }
        int all = (int) Pattern.compile("\\bnew\\b").matcher(source).results().count();
        Due.is("what is made, by fields and by the constructor", inFields + inConstructor, all);
        Due.is("what is made by the constructor", inConstructor, 3);
        Due.is("clone, copyOf", Pattern.compile("\\b(clone|copyOf|copyOfRange)\\b").matcher(source).find() ? 1 : 0, 0);
    }

    private static String withoutCommentsAndTexts(String source) {
        return source.replaceAll("(?s)/\\*.*?\\*/", "").replaceAll("//[^\n]*", "").replaceAll("\"[^\"\n]*\"", "\"\"");
    }
}
