import java.io.IOException;
import java.lang.reflect.Constructor;
import java.lang.reflect.Field;
import java.lang.reflect.Method;
import java.lang.reflect.Modifier;
import java.nio.file.Files;
import java.nio.file.Path;
import java.util.Arrays;
import java.util.HashSet;
import java.util.List;
import java.util.Set;
import java.util.TreeSet;
import java.util.regex.Matcher;
import java.util.regex.Pattern;

/** The rules of LANGUAGE.md that can be seen from the class and from its text. */
public final class LanguageTest {
    private static final List<String> FACE = List.of("feed(int,int,int,int,int)int", "text(int,int)int", "fault()int",
            "make(int,int,int)int", "join(int,int,int,int)int", "undo()int", "told(int,int)int", "arc(int,int,int)int",
            "last(int,int)int", "least(int)int", "path(int,int)int", "word(int,int)int", "couple(int,int)int",
            "words(int,int)int", "worst(int,int,int)int", "paths(int,int)long", "apart(int,int,int)int",
            "twins(int)int", "parting(int,int)long", "partingAt(int,int,int)int", "ahead(int,int)int",
            "merged(int,int)int", "alike(int,int)boolean", "print()long", "status(int)int");
    private static int wrong = 0;

    private LanguageTest() {
    }

    private static void need(boolean holds, String rule) {
        if (!holds) {
            wrong++;
            System.out.println("not held: " + rule);
        }
    }

    private static String told(Method m) {
        StringBuilder b = new StringBuilder(m.getName()).append('(');
        for (Class<?> c : m.getParameterTypes()) {
            b.append(b.charAt(b.length() - 1) == '(' ? "" : ",").append(c.getSimpleName());
        }
        return b.append(')').append(m.getReturnType().getSimpleName()).toString();
    }

    private static void face() {
        Set<String> open = new TreeSet<>();
        Set<String> names = new HashSet<>();
        for (Method m : CostBench.class.getDeclaredMethods()) {
            if (!Modifier.isPrivate(m.getModifiers())) {
                open.add(told(m));
                names.add(m.getName());
                need(Modifier.isPublic(m.getModifiers()), "1: " + m + " is public or private");
            }
        }
        need(open.equals(new TreeSet<>(FACE)), "1: the face, which is " + open);
        for (Field f : CostBench.class.getDeclaredFields()) {
            need(Modifier.isPrivate(f.getModifiers()) || f.getName().equals("NONE"), "1: " + f + " is private");
        }
        Constructor<?>[] made = CostBench.class.getDeclaredConstructors();
        need(made.length == 1 && made[0].getParameterCount() == 0 && Modifier.isPublic(made[0].getModifiers()),
                "1: one public constructor");
        need(CostBench.class.getDeclaredClasses().length <= 11, "11: at most twelve classes");
        for (Class<?> c : CostBench.class.getDeclaredClasses()) {
            need(Modifier.isStatic(c.getModifiers()), "1: " + c + " is static");
            for (Method m : c.getDeclaredMethods()) {
                need(!names.contains(m.getName()), "1: " + m + " has a name of its own");
            }
            members(c);
        }
        members(CostBench.class);
    }

    private static void members(Class<?> c) {
        int fields = 0;
        for (Field f : c.getDeclaredFields()) {
            boolean constant = Modifier.isStatic(f.getModifiers());
            fields += constant ? 0 : 1;
            need(!constant || Modifier.isFinal(f.getModifiers()), "5: " + f + " is final");
        }
        need(fields <= 20, "11: fields of " + c);
        for (Method m : c.getDeclaredMethods()) {
            need(m.getParameterCount() <= 7, "11: parameters of " + m);
        }
    }

    private static void words(String text) {
        for (String word : List.of("catch", "try", "finally", "synchronized", "assert", "double", "float", "package",
                "extends", "native", "Object", "HashMap", "Random", "Thread", "hashCode", "toString", "getMessage")) {
            need(!Pattern.compile("\\b" + word + "\\b").matcher(text).find(), "2, 4, 6, 13: no " + word);
        }
        for (String sign : List.of("->", "::", "Exact(", "@")) {
            need(!text.contains(sign), "2, 4: no " + sign);
        }
        Matcher imports = Pattern.compile("import ([\\w.]+);").matcher(text);
        while (imports.find()) {
            need(List.of("java.util.Arrays", "java.util.NoSuchElementException").contains(imports.group(1)),
                    "4: " + imports.group());
        }
        Matcher library = Pattern.compile("\\b(System|Math|Arrays|Integer|Long)\\.(\\w+)").matcher(text);
        while (library.find()) {
            need(List.of("System.arraycopy", "Math.min", "Math.max", "Arrays.fill").contains(library.group()),
                    "4: " + library.group());
        }
        need(!Pattern.compile("Arrays\\.fill\\((good|come|seen)").matcher(text).find(), "4: fill over numbers alone");
    }

    /** Methods stand one level inside a class, so their first and last lines are told by their margin. */
    private static void lengths(String text) {
        String[] lines = text.split("\n");
        for (int i = 0; i < lines.length; i++) {
            Matcher head = Pattern.compile("^( {4}| {8})[^ /*].*\\) (throws .*)?\\{$").matcher(lines[i]);
            if (!head.find()) {
                continue;
            }
            int end = i;
            while (end < lines.length && !lines[end].equals(head.group(1) + "}")) {
                end++;
            }
            need(end - i < 60, "11: the length of " + lines[i].trim());
        }
        need(Arrays.stream(lines).allMatch(l -> l.length() <= 120), "lines of 120 signs at most");
    }

    public static void main(String[] args) throws IOException {
        face();
        String text = Files.readString(Path.of(args.length > 0 ? args[0] : "src/main/java/CostBench.java"));
        String code = text.replaceAll("(?s)/\\*.*?\\*/", "").replaceAll("//.*", "");
        words(code);
        lengths(text);
        System.out.println(wrong == 0 ? "the rules that can be seen are held" : wrong + " rules are not held");
        if (wrong != 0) {
            System.exit(1);
        }
    }
}
