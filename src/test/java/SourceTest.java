import java.io.IOException;
import java.lang.reflect.Constructor;
import java.lang.reflect.Field;
import java.lang.reflect.Method;
import java.lang.reflect.Modifier;
import java.nio.charset.StandardCharsets;
import java.nio.file.Files;
import java.nio.file.Path;
import java.util.ArrayList;
import java.util.Arrays;
import java.util.List;
import java.util.Set;
import java.util.TreeSet;

/** The rules of LANGUAGE.md that can be seen from the file and from the classes. */
public final class SourceTest {
    private static final String[] FACE = {
        "feed(int,long)int", "wipe()int", "load()int", "font(int)int", "table(int,int)long", "glyphOf(int)int",
        "glyph(int,int)int", "kern(int,int)int", "size(int)int", "make(int)int", "point(int,int)int", "told(int)int",
        "held(int,int)int", "isIn(int,int)int", "canvas(int,int)int", "draw(int,int)int", "pixel(int,int)int",
        "type(int)int", "line(int,int)int"};

    public static void main(String[] args) throws IOException {
        face();
        classes();
        words();
        Check.done();
    }

    private static String signature(Method method) {
        StringBuilder text = new StringBuilder(method.getName()).append('(');
        for (Class<?> type : method.getParameterTypes()) {
            text.append(text.charAt(text.length() - 1) == '(' ? "" : ",").append(type.getSimpleName());
        }
        return text.append(')').append(method.getReturnType().getSimpleName()).toString();
    }

    private static void face() {
        Set<String> open = new TreeSet<>();
        for (Method method : HintHouse.class.getDeclaredMethods()) {
            if (!Modifier.isPrivate(method.getModifiers())) {
                open.add(signature(method));
            }
        }
        Check.due("methods that are as the document's face", open.equals(new TreeSet<>(Arrays.asList(FACE))) ? 1 : 0, 1);
        for (Field field : HintHouse.class.getDeclaredFields()) {
            boolean closed = Modifier.isPrivate(field.getModifiers());
            Check.due("field " + field.getName() + " is private", closed ? 1 : 0, field.getName().equals("NONE") ? 0 : 1);
        }
        Constructor<?>[] makers = HintHouse.class.getDeclaredConstructors();
        Check.due("constructors", makers.length, 1);
        Check.due("a public constructor", Modifier.isPublic(makers[0].getModifiers()) ? 1 : 0, 1);
    }

    private static void classes() {
        Class<?>[] inner = HintHouse.class.getDeclaredClasses();
        Check.due("classes, twelve at most", inner.length + 1 <= 12 ? 1 : 0, 1);
        List<Class<?>> all = new ArrayList<>(Arrays.asList(inner));
        all.add(HintHouse.class);
        Set<String> names = new TreeSet<>();
        for (String entry : FACE) {
            names.add(entry.substring(0, entry.indexOf('(')));
        }
        for (Class<?> type : all) {
            int fields = 0;
            for (Field field : type.getDeclaredFields()) {
                boolean isStatic = Modifier.isStatic(field.getModifiers());
                fields += isStatic ? 0 : 1;
                Check.due("static " + field.getName() + " is final",
                    isStatic && !Modifier.isFinal(field.getModifiers()) ? 1 : 0, 0);
            }
            Check.due(type + " has twenty fields at most", fields <= 20 ? 1 : 0, 1);
            for (Method method : type.getDeclaredMethods()) {
                Check.due(method + " takes seven at most", method.getParameterCount() <= 7 ? 1 : 0, 1);
                boolean taken = type != HintHouse.class && names.contains(method.getName());
                Check.due(method + " bears a public name", taken ? 1 : 0, 0);
            }
        }
    }

    private static void words() throws IOException {
        String text = Files.readString(Path.of("src/main/java/HintHouse.java"), StandardCharsets.UTF_8);
        String code = text.replaceAll("(?s)/\\*.*?\\*/", "").replaceAll("//[^\n]*", "");
        String[] refused = {"throw", "throws", "try", "catch", "finally", "synchronized", "assert", "package",
            "double", "float", "native", "volatile", "transient", "Object", "System\\.(?!arraycopy)\\w+",
            "Math\\.\\w*Exact", "Math\\.(random|sqrt|round)", "Thread", "Random", "interface @", "hashCode", "toString"};
        for (String word : refused) {
            boolean there = java.util.regex.Pattern.compile("\\b" + word + "\\b").matcher(code).find();
            Check.due("the word " + word, there ? 1 : 0, 0);
        }
        Check.due("an arrow", code.contains("->") ? 1 : 0, 0);
        Check.due("a method reference", code.contains("::") ? 1 : 0, 0);
        int longest = 0;
        int begin = -1;
        String[] rows = text.split("\n");
        for (int k = 0; k < rows.length; k++) {
            if (rows[k].matches("( {4}| {8})(public|private|[a-z]).*\\) \\{") && !rows[k].contains(" class ")) {
                begin = k;
            } else if (begin >= 0 && rows[k].matches("( {4}| {8})}")) {
                longest = Math.max(longest, k - begin + 1);
                begin = -1;
            }
            boolean plain = rows[k].chars().allMatch(c -> c >= 32 && c < 127);
            Check.due("row " + (k + 1) + " is plain", plain ? 1 : 0, 1);
        }
        Check.due("methods of sixty lines at most", longest <= 60 && longest > 10 ? 1 : 0, 1);
    }
}
