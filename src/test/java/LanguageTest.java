import java.lang.reflect.Constructor;
import java.lang.reflect.Field;
import java.lang.reflect.Method;
import java.lang.reflect.Modifier;
import java.nio.charset.StandardCharsets;
import java.nio.file.Files;
import java.nio.file.Path;
import java.util.Arrays;
import java.util.Set;
import java.util.TreeSet;
import java.util.regex.Matcher;
import java.util.regex.Pattern;

/** What of LANGUAGE.md and of the document's face can be looked at by a program. Takes the source's path. */
public final class LanguageTest {
    private static final String[] FACE = {"int letter(int)", "int lane()", "int person(int,int)", "int thing(int,int)",
        "int breaks(int,int)", "int rusts(int)", "int says(int,int)", "int mends(int,int)", "int wears(int,int)", "int skill(int,int)",
        "int turn(int,int,int)", "int days(int)", "int wholeThen(int)", "int brokenThen(int,int)", "int mendedThen(int)",
        "int again(int,int)", "int mourned(int)", "int first(int)", "int menders(int)", "int together(int)", "int lost()",
        "int breaker(int)", "int bestSays(int)", "int confessions()", "int learns(int)", "int missed(int)", "int due(int)",
        "int ring(int,int)", "int arranged(int)", "int two(int,int,int)", "long storm(int,int,int,int)", "long mean(int)",
        "int whatIs(int,int)", "int row(int)", "int judge()", "int clear()", "int lots(int,int,int)", "int image()", "int on()",
        "int count(int)"};
    private static final String[] FORBIDDEN = {"throw", "throws", "try", "catch", "synchronized", "assert", "import", "package", "->",
        "::", "Exact\\b", "\\bvar\\b", "\\bnative\\b", "\\bvolatile\\b", "\\btransient\\b", "System\\.(?!arraycopy)", "\\bThread\\b",
        "\\bRandom\\b", "\\bMAX_VALUE\\b", "\\bequals\\b", "\\bhashCode\\b", "\\btoString\\b"};
    private static final Check C = new Check();

    public static void main(String[] args) throws Exception {
        Class<?> face = Class.forName("MendAnothersBreaking");
        members(face);
        for (Class<?> inside : face.getDeclaredClasses()) {
            inside(inside);
        }
        C.holds("at most twelve classes", face.getDeclaredClasses().length < 12);
        words(Files.readString(Path.of(args[0]), StandardCharsets.UTF_8));
        C.end();
    }

    private static String told(Method m) {
        StringBuilder s = new StringBuilder(m.getReturnType().getName()).append(' ').append(m.getName()).append('(');
        for (Class<?> type : m.getParameterTypes()) {
            s.append(s.charAt(s.length() - 1) == '(' ? "" : ",").append(type.getName());
        }
        return s.append(')').toString();
    }

    private static void members(Class<?> face) {
        C.about("rule 1");
        C.holds("public and final", Modifier.isPublic(face.getModifiers()) && Modifier.isFinal(face.getModifiers()));
        Set<String> has = new TreeSet<>();
        Set<String> names = new TreeSet<>();
        for (Method m : face.getDeclaredMethods()) {
            if (Modifier.isPublic(m.getModifiers())) {
                has.add(told(m));
                names.add(m.getName());
            }
        }
        C.holds("the face's methods: " + has, has.equals(new TreeSet<>(Arrays.asList(FACE))));
        for (Method m : face.getDeclaredMethods()) {
            boolean isPublic = Modifier.isPublic(m.getModifiers());
            C.holds(m + " is public or private", isPublic || Modifier.isPrivate(m.getModifiers()));
            C.holds(m + " has a name of its own", isPublic || !names.contains(m.getName()));
            C.holds(m + " takes at most seven", m.getParameterCount() <= 7);
        }
        Constructor<?>[] made = face.getDeclaredConstructors();
        C.holds("one public constructor", made.length == 1 && Modifier.isPublic(made[0].getModifiers()) && made[0].getParameterCount() == 0);
        for (Field f : face.getDeclaredFields()) {
            C.holds(f + " is private", Modifier.isPrivate(f.getModifiers()));
        }
        fields(face);
    }

    private static void inside(Class<?> inside) {
        C.about("rules 1 and 2");
        int is = inside.getModifiers();
        C.holds(inside + " is static", Modifier.isStatic(is));
        C.holds(inside + " is private or package-visible", !Modifier.isPublic(is) && !Modifier.isProtected(is));
        C.holds(inside + " has no class inside", inside.getDeclaredClasses().length == 0);
        for (Method m : inside.getDeclaredMethods()) {
            C.holds(m + " takes at most seven", m.getParameterCount() <= 7);
        }
        fields(inside);
    }

    private static void fields(Class<?> type) {
        C.about("rules 5 and 11");
        int own = 0;
        for (Field f : type.getDeclaredFields()) {
            boolean isStatic = Modifier.isStatic(f.getModifiers());
            own += isStatic ? 0 : 1;
            C.holds(f + " is a constant", !isStatic || Modifier.isFinal(f.getModifiers()) && f.getType().isPrimitive());
        }
        C.holds(type + " has at most twenty fields", own <= 20);
    }

    private static void words(String source) {
        C.about("rules 3 to 11");
        String code = source.replaceAll("(?s)/\\*.*?\\*/", "").replaceAll("//[^\n]*", "");
        for (String word : FORBIDDEN) {
            String pattern = word.matches("\\w+") ? "\\b" + word + "\\b" : word;
            Matcher m = Pattern.compile(pattern).matcher(code);
            C.holds("no " + word, !m.find());
        }
        for (char c : source.toCharArray()) {
            if (c > 126) {
                C.holds("signs are 1 to 126", false);
            }
        }
        Matcher library = Pattern.compile("\\b([A-Z][a-z]\\w*)\\.(\\w+)").matcher(code);
        Set<String> allowed = Set.of("Math.min", "Math.max", "Integer.bitCount", "System.arraycopy");
        while (library.find()) {
            C.holds("the library's " + library.group(), allowed.contains(library.group()));
        }
        int length = 0;
        for (String line : code.split("\n")) {
            length = line.matches(" {4}( {4})?(?! )\\S.*\\{") ? 0 : length + 1;
            C.holds("a method of some sixty lines at most: " + line, length <= 60);
        }
    }
}
