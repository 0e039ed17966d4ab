import java.io.IOException;
import java.lang.reflect.Constructor;
import java.lang.reflect.Field;
import java.lang.reflect.Member;
import java.lang.reflect.Method;
import java.lang.reflect.Modifier;
import java.nio.charset.StandardCharsets;
import java.nio.file.Files;
import java.nio.file.Path;
import java.util.Arrays;
import java.util.HashSet;
import java.util.Set;
import java.util.TreeSet;
import java.util.regex.Matcher;
import java.util.regex.Pattern;

/** The public face, and the rules of LANGUAGE.md that can be seen in the source or in the compiled class. */
public final class LanguageTest {
    private static final String FACE = "goes():int cloth(int,int,int):int drawing(int):int stick(int,int,int,int):int "
        + "load(int,int,int):boolean bears(int):int cheapest(int,int):int thing(int,int,int,int):int "
        + "piece(int,int,int):int laid(int,int,int):int least(int,int,int):int maker(int,int,int,int,int):int "
        + "named(int,boolean):boolean yards(int,int,int):int feed(int,int,int,int,int):int order(int,int,int):int "
        + "number(int,int,int,int,int):int why(int,int,int):int makes(int,int,int,boolean):int person(int):int "
        + "price(int,int):boolean buys(int,int,boolean):int gone(int,int):int docket(int,int,int,int):int "
        + "first(int,int):int waits(int,int):int bombed(int):int seen(int,int,int):boolean falsely(int):int "
        + "rubbed(int,int,boolean):boolean bench(int):boolean isTrue(int,int):int needs(int,int,int):int "
        + "fewest(int,int,int):int loses(int,int):int beside(int):int check(int):int look(int,int):int count(int):int";

    private static final String[] FORBIDDEN = {"throw", "throws", "try", "catch", "finally", "synchronized", "assert",
        "volatile", "transient", "native", "Object", "System\\.(?!arraycopy)\\w+", "Thread", "Random", "\\w*Exact",
        "var", "package", "hashCode", "equals", "toString", "protected", "instanceof", "Iterator", "HashMap", "Map",
        "Collections", "Scanner", "Double", "Float", "Character", "Boolean", "Short", "Byte", "BigInteger", "NaN"};

    public static void main(String[] args) throws IOException {
        face();
        shapes();
        String path = System.getenv("UTILITY_BOARD_SOURCE");
        Path file = Path.of(path == null ? "src/main/java/UtilityBoard.java" : path);
        source(Files.readString(file, StandardCharsets.UTF_8));
        Due.finish();
    }

    private static void no(String what, boolean is) {
        Due.due(what, is, false);
    }

    private static void face() {
        Set<String> due = new TreeSet<>(Arrays.asList(FACE.split(" ")));
        Set<String> given = new TreeSet<>();
        Set<String> names = new HashSet<>();
        for (Method m : UtilityBoard.class.getDeclaredMethods()) {
            if (Modifier.isPublic(m.getModifiers())) {
                StringBuilder s = new StringBuilder(m.getName()).append('(');
                for (Class<?> p : m.getParameterTypes()) {
                    s.append(s.charAt(s.length() - 1) == '(' ? "" : ",").append(p);
                }
                given.add(s.append("):").append(m.getReturnType()).toString());
                names.add(m.getName());
            }
        }
        Due.due("the face " + given, given.equals(due), true);
        for (Class<?> type : all()) {
            for (Method m : type.getDeclaredMethods()) {
                no(m + " bears a public one's name", type != UtilityBoard.class && names.contains(m.getName()));
            }
        }
        for (Method m : UtilityBoard.class.getDeclaredMethods()) {
            visible(m, m.getName(), names);
        }
        for (Field f : UtilityBoard.class.getDeclaredFields()) {
            visible(f, f.getName(), Set.of("NONE"));
        }
        for (Constructor<?> c : UtilityBoard.class.getDeclaredConstructors()) {
            Due.due("the constructor", Modifier.isPublic(c.getModifiers()) && c.getParameterCount() == 0, true);
        }
        Due.due("public final", UtilityBoard.class.getModifiers(), Modifier.PUBLIC | Modifier.FINAL);
    }

    private static void visible(Member member, String name, Set<String> face) {
        boolean hidden = Modifier.isPrivate(member.getModifiers());
        Due.due(member + " is private or of the face", hidden != face.contains(name), true);
    }

    private static Set<Class<?>> all() {
        Set<Class<?>> all = new HashSet<>(Arrays.asList(UtilityBoard.class.getDeclaredClasses()));
        all.add(UtilityBoard.class);
        return all;
    }

    private static void shapes() {
        no("more than twelve classes", all().size() > 12);
        for (Class<?> type : all()) {
            no(type + " is not static", type != UtilityBoard.class && !Modifier.isStatic(type.getModifiers()));
            int fields = 0;
            for (Field f : type.getDeclaredFields()) {
                boolean constant = Modifier.isStatic(f.getModifiers());
                fields += constant ? 0 : 1;
                no(f + " is static and not final", constant && !Modifier.isFinal(f.getModifiers()));
            }
            no(type + " has more than twenty fields", fields > 20);
            for (Method m : type.getDeclaredMethods()) {
                no(m + " takes more than seven", m.getParameterCount() > 7);
            }
        }
    }

    private static void source(String text) {
        no("a sign above 127", text.chars().anyMatch(c -> c > 127));
        String bare = text.replaceAll("(?s)/\\*.*?\\*/", "").replaceAll("//[^\n]*", "")
            .replaceAll("\"[^\"\n]*\"", "\"\"").replaceAll("'[^'\n]+'", "' '");
        for (String word : FORBIDDEN) {
            no("the word " + word, Pattern.compile("(?<![\\w.])" + word + "\\b").matcher(bare).find());
        }
        for (String sign : new String[] {"->", "::", "@", "static {", "\" +", "+ \"", "\" \""}) {
            no("the sign " + sign, bare.contains(sign));
        }
        Matcher imports = Pattern.compile("import ([^;]+);").matcher(bare);
        while (imports.find()) {
            boolean listed = Set.of("java.util.ArrayList", "java.util.Arrays").contains(imports.group(1));
            Due.due(imports.group(), listed, true);
        }
        methodLengths(bare);
    }

    private static void methodLengths(String bare) {
        String[] lines = bare.split("\n");
        int start = -1;
        String indent = "";
        for (int i = 0; i < lines.length; i++) {
            Matcher head = Pattern.compile("^( {4}| {8})(?! )(?!.*\\bclass\\b).*\\) \\{$").matcher(lines[i]);
            if (start < 0 && head.find()) {
                start = i;
                indent = head.group(1);
            } else if (start >= 0 && lines[i].equals(indent + "}")) {
                no("longer than sixty lines: " + lines[start].trim(), i - start + 1 > 60);
                start = -1;
            }
        }
        no("a method without an end", start >= 0);
    }
}
