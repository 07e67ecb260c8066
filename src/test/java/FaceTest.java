import java.io.IOException;
import java.lang.reflect.Constructor;
import java.lang.reflect.Executable;
import java.lang.reflect.Field;
import java.lang.reflect.Method;
import java.lang.reflect.Modifier;
import java.nio.file.Files;
import java.nio.file.Path;
import java.util.Arrays;
import java.util.HashSet;
import java.util.Set;
import java.util.TreeSet;
import java.util.regex.Matcher;
import java.util.regex.Pattern;

/** The face as the document tells it, and those rules of LANGUAGE.md that can be seen in the class or its text. */
public final class FaceTest {
    private static final Path SOURCE = Path.of("src/main/java/SqueezedSwap.java");

    private static final String[] FACE = {"int feed(int, int, int, int, int)", "int swap(int)", "int fault()",
        "int where()", "int about(int)", "int cell(int, int)", "int squeezed(int)", "int pieces(int)",
        "int piece(int, int, int)", "int fewest(int)", "int rest(int, int)", "int ranked(int)", "int sort(int)",
        "int home(int)", "int sizes(int, int)", "int gain()", "int next(int)", "int coldest(int)", "int fittest()",
        "int zone(int, int)", "int slot(int, int)", "int page(int)", "int pooled(int, int)", "int read(int, int)",
        "int aged(int)", "int total(int)", "int same(int, int)", "int waste()", "int would(int, boolean)",
        "int freeing()", "int holds(boolean)", "int pushes(int, int)", "int pushed(int, int, int)",
        "int foretold(int, int, int)", "int enough()", "int op(int, int)", "int store(int, int)", "int load(int)",
        "int drop(int)", "boolean hold(int)", "boolean release(int)", "int poke(int, int, int)", "int writeBack(int)",
        "int limit(int)", "int compact()", "int run(int, int)", "boolean undo()", "int onDisk(int)", "int size(int)",
        "int trouble()"};

    // Words that the rules leave out, each as it would stand in the code.
    private static final String[] LEFT_OUT = {"->", "::", "\\bfinally\\b", "\\bassert\\b", "\\bsynchronized\\b",
        "\\bpackage\\b", "\\bcatch\\b", "\\btry\\b", "\\bnative\\b", "\\bvolatile\\b", "\\bsuper\\b", "\\bimplements\\b",
        "\\bObject\\b", "\\bSystem\\.(?!arraycopy)", "Exact\\b", "\\bMath\\.(?!max|min|abs)", "\\bRandom\\b",
        "\\bThread\\b", "\\bequals\\b", "\\bhashCode\\b", "\\btoString\\b", "\\bprotected\\b", "\\bfloat\\b",
        "\\bdouble\\b", "\\bstatic\\s*\\{", "\"\\s*\\+", "\\+\\s*\""};

    private static int wrong;

    private FaceTest() {
    }

    public static void main(String[] args) throws IOException {
        face();
        members();
        nested();
        text(Files.readString(SOURCE));
        System.out.println(wrong == 0 ? "the face is as told" : wrong + " faults of the face");
        if (wrong != 0) {
            System.exit(1);
        }
    }

    private static void due(boolean so, String what) {
        if (!so) {
            wrong++;
            System.out.println(what);
        }
    }

    private static void face() {
        Set<String> want = new TreeSet<>(Arrays.asList(FACE));
        Set<String> got = new TreeSet<>();
        for (Method m : SqueezedSwap.class.getDeclaredMethods()) {
            if (Modifier.isPublic(m.getModifiers())) {
                String types = Arrays.toString(m.getParameterTypes());
                got.add(m.getReturnType() + " " + m.getName() + "(" + types.substring(1, types.length() - 1) + ")");
                boolean thrower = m.getName().equals("onDisk");
                due(m.getExceptionTypes().length == (thrower ? 1 : 0), m.getName() + " tells other exceptions");
                due(!Modifier.isStatic(m.getModifiers()), m.getName() + " is static");
            }
        }
        due(got.equals(want), "the public methods are " + got);
        int flags = SqueezedSwap.class.getModifiers();
        due(Modifier.isPublic(flags) && Modifier.isFinal(flags), "the class isn't public and final");
        due(SqueezedSwap.class.getPackageName().isEmpty(), "the class has a package");
    }

    private static void members() {
        Set<String> open = new HashSet<>();
        for (Method m : SqueezedSwap.class.getDeclaredMethods()) {
            boolean isPublic = Modifier.isPublic(m.getModifiers());
            due(isPublic || Modifier.isPrivate(m.getModifiers()), m.getName() + " is neither public nor private");
            if (isPublic) {
                open.add(m.getName());
            }
        }
        for (Method m : SqueezedSwap.class.getDeclaredMethods()) {
            due(Modifier.isPublic(m.getModifiers()) || !open.contains(m.getName()), "private like public: " + m);
        }
        for (Field f : SqueezedSwap.class.getDeclaredFields()) {
            boolean constant = f.getName().equals("NONE");
            due(constant == Modifier.isPublic(f.getModifiers()), f.getName() + " is public, or should be");
            due(constant || Modifier.isPrivate(f.getModifiers()), f.getName() + " isn't private");
        }
        Constructor<?>[] made = SqueezedSwap.class.getDeclaredConstructors();
        due(made.length == 1 && made[0].getParameterCount() == 0 && Modifier.isPublic(made[0].getModifiers()),
            "the constructor is another");
    }

    private static void nested() {
        Class<?>[] inside = SqueezedSwap.class.getDeclaredClasses();
        due(inside.length + 1 <= 12, "more than twelve classes");
        Set<String> face = new HashSet<>();
        for (String f : FACE) {
            face.add(f.replaceAll("\\w+ (\\w+)\\(.*", "$1"));
        }
        for (Class<?> c : inside) {
            due(Modifier.isStatic(c.getModifiers()) && !Modifier.isPublic(c.getModifiers()), c + " is public or inner");
            for (Method m : c.getDeclaredMethods()) {
                due(!face.contains(m.getName()), c + " has a method named like one of the face: " + m.getName());
                few(m);
            }
            fields(c);
        }
        for (Method m : SqueezedSwap.class.getDeclaredMethods()) {
            few(m);
        }
        fields(SqueezedSwap.class);
    }

    private static void few(Executable m) {
        due(m.getParameterCount() <= 7, m + " takes more than seven parameters");
    }

    private static void fields(Class<?> c) {
        int own = 0;
        for (Field f : c.getDeclaredFields()) {
            if (Modifier.isStatic(f.getModifiers())) {
                due(Modifier.isFinal(f.getModifiers()), f + " is static and not final");
            } else {
                own++;
            }
        }
        due(own <= 20, c + " has more than twenty fields");
    }

    private static void text(String source) {
        String code = source.replaceAll("(?s)/\\*.*?\\*/", "").replaceAll("//[^\n]*", "");
        for (String word : LEFT_OUT) {
            Matcher m = Pattern.compile(word).matcher(code);
            due(!m.find(), "the code has what the rules leave out: " + word);
        }
        due(source.chars().allMatch(c -> c == '\n' || (c >= 32 && c < 127)), "the text has signs that aren't plain");
        Matcher imports = Pattern.compile("import ([\\w.]+);").matcher(code);
        while (imports.find()) {
            due(Set.of("java.util.Arrays", "java.util.NoSuchElementException").contains(imports.group(1)),
                "another import: " + imports.group(1));
        }
        methodsAreShort(code);
    }

    private static void methodsAreShort(String code) {
        String[] lines = code.split("\n");
        int begun = -1;
        String indent = "";
        for (int i = 0; i < lines.length; i++) {
            Matcher head = Pattern.compile("^( {4}| {8})(?! )[\\w\\[\\] ]+\\([^;=]*\\)[^;=]*\\{$").matcher(lines[i]);
            if (begun < 0 && head.find() && !lines[i].trim().matches("(if|for|while|switch|else|do)\\b.*")) {
                begun = i;
                indent = head.group(1);
            } else if (begun >= 0 && lines[i].equals(indent + "}")) {
                due(i - begun + 1 <= 60, "a method of more than sixty lines: " + lines[begun].trim());
                begun = -1;
            }
        }
    }
}
