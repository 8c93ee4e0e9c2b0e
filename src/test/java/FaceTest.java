import java.io.IOException;
import java.lang.reflect.Constructor;
import java.lang.reflect.Field;
import java.lang.reflect.Method;
import java.lang.reflect.Modifier;
import java.nio.charset.StandardCharsets;
import java.nio.file.Files;
import java.nio.file.Path;
import java.util.Arrays;
import java.util.HashSet;
import java.util.Set;
import java.util.TreeSet;
import java.util.regex.Matcher;
import java.util.regex.Pattern;

/** The public face, the constants, and those rules of ../shared/LANGUAGE.md that a glance at the file can tell. */
public final class FaceTest {
    private static final Check CHECK = new Check("FaceTest");
    private static final Set<String> FACE = Set.of(
        "int note(int,int,int,int,int)", "int mark(int,int)", "int level(int,int,boolean)", "int meter(int,int)",
        "int arc(int,int,int)", "int levelAt(int)", "int timeOf(int)", "int feed(int,long)", "int read()",
        "int plain()", "int rule(int,int)", "int value(int,int)", "int why(int,int)", "int perform()",
        "int event(int,int)", "int sounding(int)", "int span(int,int)", "int count(int)");

    public static void main(String[] args) throws IOException {
        constants();
        face();
        source();
        CHECK.end();
    }

    private static void constants() {
        CHECK.due("NONE", StyleRows.NONE, -1);
        CHECK.due("UNKNOWN", StyleRows.UNKNOWN, -1001);
        CHECK.due("OUTSIDE", StyleRows.OUTSIDE, -1002);
        CHECK.due("STATE", StyleRows.STATE, -1003);
        CHECK.due("ROOM", StyleRows.ROOM, -1004);
    }

    private static void face() {
        Set<String> shown = new TreeSet<>();
        Set<String> publicNames = new HashSet<>();
        for (Method method : StyleRows.class.getDeclaredMethods()) {
            if (Modifier.isPublic(method.getModifiers())) {
                shown.add(told(method));
                publicNames.add(method.getName());
            }
        }
        same("the public methods are those of the document", shown.equals(FACE));
        for (Class<?> inside : StyleRows.class.getDeclaredClasses()) {
            same(inside + " is static", Modifier.isStatic(inside.getModifiers()));
        }
        for (Method method : StyleRows.class.getDeclaredMethods()) {
            int modifiers = method.getModifiers();
            if (!Modifier.isPublic(modifiers) && !method.isSynthetic()) {
                same(method + " is private", Modifier.isPrivate(modifiers));
                same(method + " has a name of its own", !publicNames.contains(method.getName()));
            }
        }
        for (Field field : StyleRows.class.getDeclaredFields()) {
            int modifiers = field.getModifiers();
            same(field + " is private or a constant", Modifier.isPrivate(modifiers) || field.getName().matches("[A-Z]+"));
            same(field + " is final if static", !Modifier.isStatic(modifiers) || Modifier.isFinal(modifiers));
        }
        Constructor<?>[] constructors = StyleRows.class.getDeclaredConstructors();
        CHECK.due("constructors", constructors.length, 1);
        same("the constructor takes a long", Arrays.equals(constructors[0].getParameterTypes(), new Class<?>[] {long.class}));
        same("the class is final", Modifier.isFinal(StyleRows.class.getModifiers()));
    }

    private static String told(Method method) {
        StringBuilder told = new StringBuilder(method.getReturnType().getName());
        told.append(' ').append(method.getName()).append('(');
        String comma = "";
        for (Class<?> type : method.getParameterTypes()) {
            told.append(comma).append(type.getName());
            comma = ",";
        }
        return told.append(')').toString();
    }

    private static void source() throws IOException {
        String text = Files.readString(Path.of("src/main/java/StyleRows.java"), StandardCharsets.US_ASCII);
        String code = text.replaceAll("(?s)/\\*.*?\\*/", " ").replaceAll("//[^\n]*", " ");
        String[] banned = {
            "throw", "throws", "try", "catch", "finally", "synchronized", "assert", "import", "package", "float",
            "double", "System", "Object", "hashCode", "equals", "toString", "Exception", "Thread", "protected"
        };
        for (String word : banned) {
            same("no word '" + word + "'", !Pattern.compile("\\b" + word + "\\b").matcher(code).find());
        }
        same("no lambda, no method reference", !code.contains("->") && !code.contains("::"));
        CHECK.due("no method throws a name away: *Exact", code.contains("Exact(") ? 1 : 0, 0);
        int classes = 0;
        Matcher matcher = Pattern.compile("\\bclass\\b").matcher(code);
        while (matcher.find()) {
            classes++;
        }
        same("twelve classes at most", classes <= 12);
    }

    private static void same(String what, boolean holds) {
        CHECK.due(what, holds ? 1 : 0, 1);
    }
}
