import java.io.IOException;
import java.lang.reflect.Constructor;
import java.lang.reflect.Field;
import java.lang.reflect.Method;
import java.lang.reflect.Modifier;
import java.nio.file.Files;
import java.nio.file.Path;
import java.util.ArrayList;
import java.util.Arrays;
import java.util.List;
import java.util.Set;
import java.util.TreeSet;
import java.util.regex.Matcher;
import java.util.regex.Pattern;

/** The public face, and those rules of LANGUAGE.md that can be seen from the text of the class. */
public final class FaceTests {
    private static final Path SOURCE = Path.of("src/main/java/BluesAndGreens.java");
    private static final String FACE = "sign(int) end(int) drivers() quarters() quarrels() rule() driver(int,int) strength(int) "
        + "quarter(int,int) quarrel(int,int) club(int,int) limit(int) sheet(int,int,int,int) race(int) buy(int,int) curse(int,int) "
        + "dig(int) grain(int,int) show(int,int) season() undo() order() ahead(int) joins() bribe(int) lead(int) stable(int) apart() "
        + "calm() risky() worst() riots(int) spark() won(int,int) gates(int,int) common(int) lots(int,int,int) bent(int,int,int,int) "
        + "heard(int,int) forget() fits() ask() rests(int,int) law() years(int,int) keep(int) again(int) count(int) row(int)";
    private static final Set<String> THROWING = Set.of("driver", "strength", "quarter", "quarrel", "club", "row");
    private static int wrong;

    private static void must(boolean holds, String what) {
        if (!holds) {
            wrong++;
            System.out.println(what);
        }
    }

    private static void face() {
        Class<?> type = BluesAndGreens.class;
        must(Modifier.isPublic(type.getModifiers()) && Modifier.isFinal(type.getModifiers()), "the class is public and final");
        Set<String> due = new TreeSet<>(Arrays.asList(FACE.split(" ")));
        Set<String> got = new TreeSet<>();
        Set<String> names = new TreeSet<>();
        for (Method m : type.getDeclaredMethods()) {
            if (Modifier.isPrivate(m.getModifiers())) {
                continue;
            }
            must(Modifier.isPublic(m.getModifiers()) && !Modifier.isStatic(m.getModifiers()), m + " is of the face");
            String types = String.join(",", Arrays.stream(m.getParameterTypes()).map(Class::getName).toList());
            got.add(m.getName() + "(" + types + ")");
            names.add(m.getName());
            String answer = switch (m.getName()) {
                case "end", "keep", "again" -> "boolean";
                case "row" -> "long";
                default -> "int";
            };
            must(m.getReturnType().getName().equals(answer), m + " answers " + answer);
            String thrown = String.join(",", Arrays.stream(m.getExceptionTypes()).map(Class::getName).toList());
            must(thrown.equals(THROWING.contains(m.getName()) ? "java.util.NoSuchElementException" : ""), m + " throws as told");
        }
        must(got.equals(due), "the face is " + got);
        for (Field f : type.getDeclaredFields()) {
            must(Modifier.isPrivate(f.getModifiers()) || f.getName().equals("NONE"), f + " is private");
            must(!Modifier.isStatic(f.getModifiers()) || Modifier.isFinal(f.getModifiers()), f + " is final");
        }
        Constructor<?>[] made = type.getDeclaredConstructors();
        must(made.length == 1 && Modifier.isPublic(made[0].getModifiers()) && made[0].getParameterCount() == 0, "one constructor");
        inside(type, names);
    }

    private static void inside(Class<?> type, Set<String> names) {
        must(type.getDeclaredClasses().length <= 12, "at most twelve classes");
        List<Class<?>> all = new ArrayList<>(Arrays.asList(type.getDeclaredClasses()));
        all.add(type);
        for (Class<?> c : all) {
            must(c == type || Modifier.isStatic(c.getModifiers()) && !Modifier.isPublic(c.getModifiers()), c + " is static");
            must(Arrays.stream(c.getDeclaredFields()).filter(f -> !Modifier.isStatic(f.getModifiers())).count() <= 20, c + " has few fields");
            for (Method m : c.getDeclaredMethods()) {
                must(m.getParameterCount() <= 7, m + " takes at most seven");
                must(c == type && Modifier.isPublic(m.getModifiers()) || !names.contains(m.getName()), m + " has a name of its own");
            }
        }
    }

    private static void text() throws IOException {
        String all = Files.readString(SOURCE);
        must(all.chars().allMatch(c -> c == '\n' || c >= ' ' && c < 127), "plain signs alone");
        String code = all.replaceAll("(?s)/\\*.*?\\*/", "").replaceAll("//[^\n]*", "");
        String[] never = {"->", "::", "\\bcatch\\b", "\\btry\\b", "\\bfinally\\b", "\\bsynchronized\\b", "\\bassert\\b", "static\\s*\\{",
            "\\bwhile\\s*\\(true", "for\\s*\\(;;", "Exact\\b", "\\bSystem\\.(?!arraycopy)", "\\bdouble\\b", "\\bfloat\\b", "\\brecord\\b",
            "\\bpackage\\b", "import (?!java\\.util\\.NoSuchElementException;)", "throw (?!new NoSuchElementException\\(\\);)",
            "\\bprotected\\b", "\\bInteger\\.(?!bitCount)", "\\bMath\\.(?!min|max)", "hashCode|toString|equals"};
        for (String word : never) {
            Matcher m = Pattern.compile(word).matcher(code);
            must(!m.find(), "the class has no " + word);
        }
        methodsAreShort(all);
    }

    private static void methodsAreShort(String all) {
        String[] lines = all.split("\n");
        for (int i = 0; i < lines.length; i++) {
            Matcher m = Pattern.compile("( +)(?:public |private |static )*[\\w\\[\\]]+ \\w+\\(.*\\)(?: throws \\w+)? \\{").matcher(lines[i]);
            if (!m.matches()) {
                continue;
            }
            int end = i;
            while (end < lines.length && !lines[end].equals(m.group(1) + "}")) {
                end++;
            }
            must(end - i <= 60, lines[i].trim() + " is short");
        }
    }

    public static void main(String[] args) throws IOException {
        face();
        text();
        System.out.println(wrong == 0 ? "the face and the language are as told" : wrong + " things are not as told");
        if (wrong != 0) {
            System.exit(1);
        }
    }
}
