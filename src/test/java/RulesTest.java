import java.io.IOException;
import java.lang.reflect.Constructor;
import java.lang.reflect.Field;
import java.lang.reflect.Method;
import java.lang.reflect.Modifier;
import java.nio.file.Files;
import java.nio.file.Path;
import java.util.ArrayList;
import java.util.Arrays;
import java.util.List;
import java.util.TreeSet;
import java.util.regex.Matcher;
import java.util.regex.Pattern;

/** The face of the class is the document's, and its source keeps to what LANGUAGE.md leaves, as far as a look can tell. */
public final class RulesTest {
    private static final String[] FACE = {
        "int set(int,int)", "int come()", "int stand(int,int)", "int count(int)", "int feed(int,int,int,int,int,int)",
        "int text()", "int force(int)", "int asks(int,int,int,int,int)", "int coin(int,int,int,int)", "int sell(int,int)",
        "int told(int,int)", "int put(int)", "int worth(int)", "int gang(int,int)", "int spare(int,int)", "int reach(int)",
        "int keys()", "int gifts()", "int rest(int,int)", "int moves(int)", "int play(int)", "int which(int,int)",
        "int next(int,int,int)", "int judge(int)", "int laws(int)", "int numbers(int)", "int film(int)", "int drawn(int)",
        "long mean(int,int,int)", "int image()", "int back()", "int sheet(int,int,int)", "int cell(int,int,int)",
        "int copy(int,int,int,int,int)", "int coinsBy(int,int,int,int)", "int taken(int,int)",
    };
    private static final String[] CONSTANTS = {
        "int NONE -1", "int BAD -2", "int STATE -3", "int FULL -4", "long NO -4611686018427387904",
    };
    private static final String[] NOT_IN_SOURCE = {
        "\\bthrow\\b", "\\btry\\b", "\\bcatch\\b", "\\bsynchronized\\b", "\\bassert\\b", "->", "::", "Exact\\b", "\\bpackage\\b",
        "\\bequals\\b", "\\bhashCode\\b", "\\btoString\\b", "\\bRandom\\b", "\\bSystem\\.(?!arraycopy)", "\\bThread\\b",
        "\\bdouble\\b", "\\bfloat\\b", "\\bstatic \\{", "\\bprotected\\b", "@SuppressWarnings",
    };

    private static int wrong = 0;

    public static void main(String[] args) throws IOException {
        face();
        members();
        source();
        System.out.println(wrong == 0 ? "the rules are kept" : wrong + " rules broken");
        if (wrong != 0) System.exit(1);
    }

    private static void must(boolean is, String what) {
        if (is) return;
        wrong++;
        System.out.println(what);
    }

    private static void face() {
        Class<?> face = OpensAtNine.class;
        must(Modifier.isPublic(face.getModifiers()) && Modifier.isFinal(face.getModifiers()), "the class is not public, final");
        must(face.getSuperclass() == Object.class && face.getInterfaces().length == 0, "the class is of another one");
        TreeSet<String> methods = new TreeSet<>();
        for (Method m : face.getDeclaredMethods()) {
            if (Modifier.isPrivate(m.getModifiers())) continue;
            must(Modifier.isPublic(m.getModifiers()) && !Modifier.isStatic(m.getModifiers()), "not of the face: " + m);
            StringBuilder one = new StringBuilder(m.getReturnType() + " " + m.getName() + "(");
            for (Class<?> p : m.getParameterTypes()) one.append(one.charAt(one.length() - 1) == '(' ? "" : ",").append(p);
            methods.add(one + ")");
        }
        must(methods.equals(new TreeSet<>(Arrays.asList(FACE))), "the methods are " + methods);
        TreeSet<String> constants = new TreeSet<>();
        for (Field f : face.getDeclaredFields()) {
            if (Modifier.isPrivate(f.getModifiers())) continue;
            must((f.getModifiers() & 0xffff) == (Modifier.PUBLIC | Modifier.STATIC | Modifier.FINAL), "not of the face: " + f);
            try {
                constants.add(f.getType() + " " + f.getName() + " " + f.get(null));
            } catch (IllegalAccessException e) {
                must(false, "hidden: " + f);
            }
        }
        must(constants.equals(new TreeSet<>(Arrays.asList(CONSTANTS))), "the constants are " + constants);
        Constructor<?>[] made = face.getDeclaredConstructors();
        must(made.length == 1 && Modifier.isPublic(made[0].getModifiers()) && made[0].getParameterCount() == 0, "the constructor");
    }

    private static void members() {
        List<Class<?>> all = new ArrayList<>(List.of(OpensAtNine.class));
        all.addAll(Arrays.asList(OpensAtNine.class.getDeclaredClasses()));
        must(all.size() <= 12, all.size() + " classes");
        for (Class<?> c : all) {
            if (c != OpensAtNine.class) must(Modifier.isStatic(c.getModifiers()), c + " is not static");
            must(c == OpensAtNine.class || c.getDeclaredClasses().length == 0, c + " has classes inside");
            int fields = 0;
            for (Field f : c.getDeclaredFields()) {
                if (!Modifier.isStatic(f.getModifiers())) fields++;
                else must(Modifier.isFinal(f.getModifiers()), f + " is static and not final");
            }
            must(fields <= 20, c + " has " + fields + " fields");
            for (Method m : c.getDeclaredMethods()) {
                must(m.getParameterCount() <= 7, m + " takes too many");
                if (c == OpensAtNine.class && !Modifier.isPrivate(m.getModifiers())) continue;
                for (String f : FACE) must(!f.contains(" " + m.getName() + "("), m + " bears a name of the face");
            }
        }
    }

    private static void source() throws IOException {
        String whole = Files.readString(Path.of("src/main/java/OpensAtNine.java"));
        must(whole.chars().allMatch(c -> c == '\n' || c >= 32 && c < 127), "a sign that is none of the plain ones");
        // comments and texts are no code
        String code = whole.replaceAll("(?s)/\\*.*?\\*/", "").replaceAll("//[^\n]*", "").replaceAll("\"[^\"\n]*\"", "\"\"");
        for (String not : NOT_IN_SOURCE) {
            Matcher m = Pattern.compile(not).matcher(code);
            if (m.find()) must(false, "in the source: " + m.group());
        }
        Matcher imports = Pattern.compile("import ([^;]*);").matcher(code);
        while (imports.find()) {
            must(List.of("java.util.Arrays", "java.util.ArrayList", "java.util.List").contains(imports.group(1)),
                "import of " + imports.group(1));
        }
        int at = 0, began = 0;
        for (String line : whole.split("\n")) {
            at++;
            must(line.length() <= 120, "line " + at + " is long");
            if (line.matches(" {4}( {4})?[\\w\\[\\]<> ]+\\(.*\\) \\{")) began = at;
            if (line.matches(" {4}( {4})?\\}") && began > 0) {
                must(at - began <= 60, "a method of " + (at - began) + " lines at " + began);
                began = 0;
            }
        }
    }
}
