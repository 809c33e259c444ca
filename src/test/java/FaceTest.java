import java.lang.reflect.Constructor;
import java.lang.reflect.Field;
import java.lang.reflect.Method;
import java.lang.reflect.Modifier;
import java.nio.file.Files;
import java.nio.file.Path;
import java.util.HashSet;
import java.util.Set;
import java.util.TreeSet;
import java.util.regex.Matcher;
import java.util.regex.Pattern;

/** The public face, and those rules of LANGUAGE.md that can be seen from outside; run at the project's root. */
final class FaceTest {
    private static final String FACE = "as/2 ask/2 back/0 behind/3 birth/3 check/1 copy/5 count/1 deal/1 door/4 feed/3 fine/0 footman/1 hall/1 "
        + "item/2 keep/0 lay/3 mark/3 open/2 opened/3 pour/1 reads/1 rest/2 room/2 run/1 seed/1 set/3 sheet/3 smells/2 snuffs/2 still/0 "
        + "storm/1 tell/1 text/0 textTold/2 told/2 trim/1 turns/2 why/1 wind/1";

    public static void main(String[] args) throws Exception {
        face();
        constants();
        members();
        inside();
        source();
        Due.end();
    }

    private static void face() {
        Due.holds("public and final", OneDraught.class.getModifiers() == (Modifier.PUBLIC | Modifier.FINAL));
        Set<String> found = new TreeSet<>();
        for (Method m : OneDraught.class.getDeclaredMethods()) {
            if (Modifier.isPublic(m.getModifiers())) {
                found.add(m.getName() + "/" + m.getParameterCount());
                Due.holds(m + " is as the face", m.getReturnType() == int.class && !Modifier.isStatic(m.getModifiers()));
                for (Class<?> type : m.getParameterTypes()) {
                    Due.holds(m + " takes ints", type == int.class);
                }
            }
        }
        Due.holds("the face: " + found, String.join(" ", found).equals(FACE));
        Constructor<?>[] made = OneDraught.class.getDeclaredConstructors();
        Due.holds("one constructor", made.length == 1 && Modifier.isPublic(made[0].getModifiers()) && made[0].getParameterCount() == 0);
    }

    private static void constants() throws Exception {
        String[] names = {"BAD", "NO", "FULL", "NONE", "NOTHING", "KIND", "INDEX", "SIZE"};
        int[] ends = {1, 2, 3, 5, 11, 12, 13, 14};
        for (int i = 0; i < names.length; i++) {
            Due.due(names[i], OneDraught.class.getField(names[i]).getInt(null), -1000000000 - ends[i]);
        }
        Due.due("public fields", OneDraught.class.getFields().length, names.length);
    }

    private static void members() {
        Set<String> open = new HashSet<>();
        for (Method m : OneDraught.class.getDeclaredMethods()) {
            if (Modifier.isPublic(m.getModifiers())) {
                open.add(m.getName());
            }
        }
        for (Method m : OneDraught.class.getDeclaredMethods()) {
            boolean isPrivate = Modifier.isPrivate(m.getModifiers());
            Due.holds(m + " is public or private", isPrivate || Modifier.isPublic(m.getModifiers()));
            Due.holds(m + " bears a name of its own", !isPrivate || !open.contains(m.getName()));
        }
        for (Field f : OneDraught.class.getDeclaredFields()) {
            Due.holds(f + " is public or private", Modifier.isPrivate(f.getModifiers()) || Modifier.isPublic(f.getModifiers()));
        }
        for (Class<?> c : OneDraught.class.getDeclaredClasses()) {
            for (Method m : c.getDeclaredMethods()) {
                Due.holds(m + " bears a name of its own", !open.contains(m.getName()));
            }
        }
    }

    private static void inside() {
        Class<?>[] classes = OneDraught.class.getDeclaredClasses();
        Due.holds("some twelve classes", classes.length < 12);
        checkClass(OneDraught.class);
        for (Class<?> c : classes) {
            int mods = c.getModifiers();
            Due.holds(c + " is static, not public", Modifier.isStatic(mods) && !Modifier.isPublic(mods) && !Modifier.isProtected(mods));
            Due.due(c + " has no classes inside", c.getDeclaredClasses().length, 0);
            checkClass(c);
        }
    }

    private static void checkClass(Class<?> c) {
        int ofObjects = 0;
        for (Field f : c.getDeclaredFields()) {
            if (Modifier.isStatic(f.getModifiers())) {
                Due.holds(f + " is final", Modifier.isFinal(f.getModifiers()));
                Due.holds(f + " is a constant", "int long boolean char String int[] long[] char[] byte[]".contains(f.getType().getSimpleName()));
            } else {
                ofObjects++;
            }
        }
        Due.holds(c + " has some twenty fields", ofObjects <= 20);
        for (Method m : c.getDeclaredMethods()) {
            Due.holds(m + " takes seven at most", m.getParameterCount() <= 7);
        }
    }

    private static void source() throws Exception {
        String text = Files.readString(Path.of("src/main/java/OneDraught.java"));
        for (int i = 0; i < text.length(); i++) {
            if (text.charAt(i) > 126) {
                Due.holds("a sign above 126 at " + i, false);
            }
        }
        String code = text.replaceAll("(?s)/\\*.*?\\*/", " ").replaceAll("//[^\n]*", " ");
        Set<String> imports = new TreeSet<>();
        Matcher found = Pattern.compile("import ([^;]*);").matcher(code);
        while (found.find()) {
            imports.add(found.group(1));
        }
        Due.holds("imports " + imports, Set.of("java.util.Arrays", "java.util.ArrayList", "java.util.List", "java.util.Iterator").containsAll(imports));
        String[] none = {"\\bthrow\\b", "\\bthrows\\b", "\\btry\\b", "\\bcatch\\b", "\\bsynchronized\\b", "\\bassert\\b", "->", "::", "Exact\\b",
            "\\bstatic \\{", "\\bpackage\\b", "\\bNaN\\b", "\\bObject\\b", "\\bvar\\b", "java\\.", "\\bhashCode\\b", "\\btoString\\b", "\\bThread\\b"};
        for (String word : none) {
            String searched = word.equals("java\\.") ? code.replaceAll("import [^;]*;", "") : code;
            Due.holds("without " + word, !Pattern.compile(word).matcher(searched).find());
        }
        Due.holds("of Integer, Long and Math functions alone", !Pattern.compile("\\b(Integer|Long|Math)\\.[A-Z]").matcher(code).find());
        Due.holds("System only for arraycopy", !Pattern.compile("System\\.(?!arraycopy)").matcher(code).find());
        Due.holds("Arrays only for fill and copies", !Pattern.compile("Arrays\\.(?!fill|copyOf)").matcher(code).find());
    }
}
