import java.lang.reflect.Constructor;
import java.lang.reflect.Field;
import java.lang.reflect.Method;
import java.lang.reflect.Modifier;
import java.nio.charset.StandardCharsets;
import java.nio.file.Files;
import java.nio.file.Path;
import java.util.Arrays;
import java.util.TreeSet;
import java.util.regex.Matcher;
import java.util.regex.Pattern;

/** The face of the document, and what of LANGUAGE.md a look at the source can tell. Asks the project's folder. */
public final class FaceTest {
    private static final String FACE = "bow(int)int of(int,int)int change(int,int,int)int contract(int,int,int)int "
        + "rule(int,int)int noise(int,int)int come(int)int back()int clear()int stood(int)int now(int)int best(int)int "
        + "ith(int,int)int ways()int lasts()int place(int,int)int all(int)int clash()int broken()int between(int,int)int "
        + "kindFor(int)int freed()int free()int train()int fits(int,int,int)int love(int,int,int)int curtain(int,int)long "
        + "stop()int evening(int)int lot()int seed(int)int feed(int,int)int wipe()int text()int hold(int,int)int "
        + "as(int,int)int sheet(int,int,int)int write(int,int,int)int copy(int,int,int,int,int)int load(int)int "
        + "judge(int)int loud(int)int image()int undo()int tear()int count(int)int status(int)int";

    public static void main(String[] args) throws Exception {
        face();
        namesInside();
        if (args.length > 0) {
            source(Files.readString(Path.of(args[0], "src/main/java/WhoBowsLast.java"), StandardCharsets.UTF_8));
        }
        Check.end();
    }

    private static String told(Method m) {
        StringBuilder t = new StringBuilder(m.getName()).append('(');
        for (Class<?> type : m.getParameterTypes()) {
            t.append(t.charAt(t.length() - 1) == '(' ? "" : ",").append(type.getName());
        }
        return t.append(')').append(m.getReturnType().getName()).toString();
    }

    private static void face() {
        TreeSet<String> open = new TreeSet<>();
        for (Method m : WhoBowsLast.class.getDeclaredMethods()) {
            if (!Modifier.isPrivate(m.getModifiers())) {
                open.add((Modifier.isPublic(m.getModifiers()) && !Modifier.isStatic(m.getModifiers()) ? "" : "!") + told(m));
            }
        }
        Check.dueText("the face", open.toString(), new TreeSet<>(Arrays.asList(FACE.split(" "))).toString());
        Check.due("its constructors", WhoBowsLast.class.getDeclaredConstructors().length, 1);
        for (Constructor<?> c : WhoBowsLast.class.getDeclaredConstructors()) {
            Check.due("its constructor is public, without parameters", Modifier.isPublic(c.getModifiers()) ? c.getParameterCount() : 99, 0);
        }
        for (Field f : WhoBowsLast.class.getDeclaredFields()) {
            Check.dueText("field " + f.getName(), Modifier.isPrivate(f.getModifiers()) ? "private" : "open", "private");
        }
        Check.due("the class is public and final", WhoBowsLast.class.getModifiers(), Modifier.PUBLIC | Modifier.FINAL);
    }

    private static void namesInside() {
        TreeSet<String> names = new TreeSet<>();
        for (String method : FACE.split(" ")) {
            names.add(method.substring(0, method.indexOf('(')));
        }
        int classes = 1 + WhoBowsLast.class.getDeclaredClasses().length;
        Check.due("classes in the file: " + classes, classes <= 12 ? 1 : 0, 1);
        for (Class<?> inside : WhoBowsLast.class.getDeclaredClasses()) {
            Check.due(inside + " is private or of the package, and static",
                Modifier.isStatic(inside.getModifiers()) && !Modifier.isPublic(inside.getModifiers()) ? 1 : 0, 1);
            for (Method m : inside.getDeclaredMethods()) {
                Check.dueText("a name of the face in " + inside, names.contains(m.getName()) ? m.getName() : "", "");
            }
            statics(inside);
        }
        for (Method m : WhoBowsLast.class.getDeclaredMethods()) {
            Check.due("parameters of " + m, m.getParameterCount() <= 7 ? 1 : 0, 1);
        }
        statics(WhoBowsLast.class);
    }

    private static void statics(Class<?> of) {
        int own = 0;
        for (Field f : of.getDeclaredFields()) {
            if (Modifier.isStatic(f.getModifiers())) {
                Check.due(f + " is final", Modifier.isFinal(f.getModifiers()) ? 1 : 0, 1);
            } else {
                own++;
            }
        }
        Check.due("fields of " + of + " beside its constants: " + own, own <= 20 ? 1 : 0, 1);
    }

    private static void source(String text) {
        String code = text.replaceAll("(?s)/\\*.*?\\*/", "").replaceAll("//[^\n]*", "");
        String[] banned = {
            "\\bthrow\\b", "\\btry\\b", "\\bcatch\\b", "\\bsynchronized\\b", "\\bassert\\b", "\\bimport\\b", "\\bpackage\\b",
            "->", "::", "Exact\\b", "\\bstatic\\s*\\{", "\\bvar\\b", "\\bSystem\\.(?!arraycopy\\b)", "\\bMath\\.(?!min\\b|max\\b)",
            "\\bInteger\\.(?!bitCount\\b)", "\\bequals\\b", "\\bhashCode\\b", "\\btoString\\b",
            "\\bdouble\\b", "\\bfloat\\b", "String\\s*\\["
        };
        for (String b : banned) {
            Matcher m = Pattern.compile(b).matcher(code);
            Check.dueText("the source's use of " + b, m.find() ? m.group() : "", "");
        }
        Check.due("signs above 126 in the source", text.chars().filter(c -> c > 126).count(), 0);
        lengths(text.split("\n"));
    }

    /** A method begins with a line that ends with ") {", four or eight blanks in, and ends with a brace as far in. */
    private static void lengths(String[] lines) {
        int methods = 0;
        for (int i = 0; i < lines.length; i++) {
            Matcher m = Pattern.compile("(    |        )[a-z].*\\) \\{").matcher(lines[i]);
            if (m.matches() && !lines[i].matches(" *(if|for|while|switch) .*")) {
                methods++;
                int end = i;
                while (end < lines.length && !lines[end].equals(m.group(1) + "}")) {
                    end++;
                }
                Check.due("lines of " + lines[i].strip() + " " + (end - i + 1), end - i + 1 <= 60 ? 1 : 0, 1);
            }
        }
        Check.due("methods seen", methods > 48 ? 1 : 0, 1);
    }
}
