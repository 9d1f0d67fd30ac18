import java.io.IOException;
import java.lang.reflect.Constructor;
import java.lang.reflect.Field;
import java.lang.reflect.Method;
import java.lang.reflect.Modifier;
import java.nio.file.Files;
import java.nio.file.Path;
import java.util.ArrayList;
import java.util.Arrays;
import java.util.List;
import java.util.Set;
import java.util.TreeSet;
import java.util.regex.Matcher;
import java.util.regex.Pattern;

/** What of LANGUAGE.md can be seen in the text of the class and in its shape. */
public final class LanguageTest {
    private static final String[] FACE = {
        "public int feed(int,int,int,int,int)",
        "public int act(int,int) IllegalArgumentException IllegalStateException",
        "public int fault()",
        "public int stretch(int) IllegalArgumentException IllegalStateException",
        "public int gate(int) IndexOutOfBoundsException IllegalStateException",
        "public int traveller(int,int,int,int) IllegalArgumentException IllegalStateException",
        "public int pass(int,int) IndexOutOfBoundsException",
        "public int clause()",
        "public int asked(int,int,int) IndexOutOfBoundsException",
        "public int force(int) IllegalArgumentException",
        "public int wait(int) IllegalArgumentException",
        "public void rain(int) IllegalArgumentException",
        "public int mend(int) IllegalArgumentException",
        "public int farmer(int) IllegalArgumentException IllegalStateException",
        "public int bid(int,int,int,int) IndexOutOfBoundsException IllegalArgumentException IllegalStateException",
        "public int let(int,int) IndexOutOfBoundsException IllegalArgumentException IllegalStateException",
        "public int gateTold(int,int) IndexOutOfBoundsException IllegalArgumentException",
        "public int borrow(int,int,int) IllegalArgumentException IllegalStateException",
        "public int repay(int,int) IndexOutOfBoundsException IllegalArgumentException",
        "public long loan(int,int) IndexOutOfBoundsException IllegalArgumentException",
        "public long money(int) IndexOutOfBoundsException",
        "public long wear(int) IndexOutOfBoundsException",
        "public long box(int) IllegalArgumentException",
        "public long journal(int,int) IndexOutOfBoundsException IllegalArgumentException",
        "public int count(int)",
    };
    private static final String[] RULED_OUT = {"package", "synchronized", "assert", "finally", "try", "catch", "protected",
        "record", "volatile", "transient", "native", "Object", "System.out", "Random", "Thread", "Scanner", "Iterator",
        "interface", "abstract", "while", "double", "float"};

    private LanguageTest() {
    }

    public static void main(String[] args) throws IOException {
        face();
        shape();
        text(Files.readString(Path.of(args.length > 0 ? args[0] : ".", "src/main/java/TurnpikeTrust.java")));
        Due.end("LanguageTest");
    }

    private static void none(String rule, Iterable<String> found) {
        for (String one : found) {
            Due.same(rule + ": " + one, "there", "ruled out");
        }
    }

    private static void face() {
        Set<String> due = new TreeSet<>(Arrays.asList(FACE));
        Set<String> found = new TreeSet<>();
        for (Method m : TurnpikeTrust.class.getDeclaredMethods()) {
            if (Modifier.isPrivate(m.getModifiers())) {
                continue;
            }
            StringBuilder told = new StringBuilder(Modifier.toString(m.getModifiers()));
            told.append(' ').append(m.getReturnType().getSimpleName()).append(' ').append(m.getName()).append('(');
            told.append(String.join(",", Arrays.stream(m.getParameterTypes()).map(Class::getSimpleName).toList())).append(')');
            Arrays.stream(m.getExceptionTypes()).forEach(e -> told.append(' ').append(e.getSimpleName()));
            found.add(told.toString());
        }
        Due.same("the face", found.toString(), due.toString());
        Due.same("the class", Modifier.toString(TurnpikeTrust.class.getModifiers()), "public final");
        Due.is("constructors", TurnpikeTrust.class.getDeclaredConstructors().length, 1);
        Due.is("public constructors", TurnpikeTrust.class.getConstructors().length, 1);
        List<String> open = new ArrayList<>();
        for (Field f : TurnpikeTrust.class.getDeclaredFields()) {
            if (!Modifier.isPrivate(f.getModifiers())) {
                open.add(f.getName());
            }
        }
        Due.same("fields of the face", open.toString(), "[NONE]");
    }

    private static void shape() {
        Class<?>[] inner = TurnpikeTrust.class.getDeclaredClasses();
        List<Class<?>> all = new ArrayList<>(Arrays.asList(inner));
        all.add(TurnpikeTrust.class);
        List<String> found = new ArrayList<>();
        Set<String> face = new TreeSet<>();
        for (Method m : TurnpikeTrust.class.getMethods()) {
            face.add(m.getName());
        }
        if (all.size() > 12) {
            found.add("classes " + all.size());
        }
        for (Class<?> one : all) {
            String name = one.getSimpleName();
            if (one != TurnpikeTrust.class && (Modifier.isPublic(one.getModifiers()) || !Modifier.isStatic(one.getModifiers()))) {
                found.add(name + " is public or not static");
            }
            int fields = 0;
            for (Field f : one.getDeclaredFields()) {
                boolean isStatic = Modifier.isStatic(f.getModifiers());
                fields += isStatic ? 0 : 1;
                if (isStatic && !Modifier.isFinal(f.getModifiers())) {
                    found.add(name + "." + f.getName() + " is not final");
                }
            }
            if (fields > 20) {
                found.add(name + " has fields " + fields);
            }
            for (Method m : one.getDeclaredMethods()) {
                boolean isOfFace = one == TurnpikeTrust.class && Modifier.isPublic(m.getModifiers());
                if (m.getParameterCount() > 7 || !isOfFace && face.contains(m.getName())) {
                    found.add(name + "." + m.getName());
                }
            }
            for (Constructor<?> c : one.getDeclaredConstructors()) {
                if (c.getParameterCount() > 7) {
                    found.add(name + "'s constructor");
                }
            }
        }
        none("rules 1, 2, 5, 11", found);
    }

    private static void text(String text) {
        List<String> found = new ArrayList<>();
        // Comments and the texts in quotes are no code.
        String code = text.replaceAll("(?s)/\\*.*?\\*/", "").replaceAll("//[^\n]*", "").replaceAll("\"[^\"\n]*\"", "\"\"");
        for (String word : RULED_OUT) {
            if (Pattern.compile("\\b" + Pattern.quote(word) + "\\b").matcher(code).find()) {
                found.add(word);
            }
        }
        for (String sign : new String[] {"->", "::", "@", "\" +", "+ \"", "?>", "List.of", "Exact("}) {
            if (code.contains(sign)) {
                found.add(sign);
            }
        }
        Matcher imports = Pattern.compile("import ([^;]*);").matcher(code);
        while (imports.find()) {
            if (!Set.of("java.util.ArrayList", "java.util.Arrays").contains(imports.group(1))) {
                found.add("import " + imports.group(1));
            }
        }
        Matcher throwing = Pattern.compile("throw ([^;]*);").matcher(code);
        while (throwing.find()) {
            if (!throwing.group(1).matches("new (IndexOutOfBounds|IllegalArgument|IllegalState)Exception\\(\"\"\\)")) {
                found.add("throw " + throwing.group(1));
            }
        }
        if (text.chars().anyMatch(c -> c > 126 || c < 32 && c != '\n')) {
            found.add("a sign that is not of 32 to 126");
        }
        int lines = 0;
        for (String line : text.split("\n")) {
            lines = line.matches("    (    )?[a-z].*\\{") ? 0 : lines + 1;
            if (line.matches("    (    )?\\}") && lines > 60) {
                found.add("a method of " + lines + " lines");
            }
        }
        none("rules 3, 4, 6, 11, 12", found);
    }
}
