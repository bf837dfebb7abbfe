import java.io.IOException;
import java.lang.reflect.Field;
import java.lang.reflect.Method;
import java.lang.reflect.Modifier;
import java.nio.file.Files;
import java.nio.file.Path;
import java.util.Set;
import java.util.TreeSet;
import java.util.regex.Matcher;
import java.util.regex.Pattern;

/** The face is the document's and nothing more, and the source keeps to what can be seen of LANGUAGE.md. */
public final class LoftTreeFace {
    private static final String FACE = "int feed(int, int, int, int, int);int end(int);int text();int fault(int);int fork(int, int);"
        + "long best(int);int step(int, int);int steps();int first(int, int);long more(int, int);int ties(int);"
        + "boolean plan(int, int, int);int plans(int);int planned(int, int);int judge();long cost(int);int within(int);"
        + "int reach(int, int);int dead(int, int);long worth(int, int, int);long unit(int);int joined();int costTo(int);"
        + "int take(int);long gap(int);long know();long sooner(int);long middle();long late(int);long coin();long ruin(int);"
        + "long tail(int);long lose(int);int same(int, int);int kinds();int edge(int, int, int);int rise(int);"
        + "int move(int, int, int, int);int set(int, int, int);int go(int);int now(int);int again();int run(int);int ran();"
        + "int count(int);int keep(int);int back(int);int row(int, int, int);int write(int, int, long);"
        + "int paste(int, int, int, int, int);";
    private static final String[] RULED_OUT = {
        "\\bthrow\\b", "\\btry\\b", "\\bcatch\\b", "\\bsynchronized\\b", "\\bassert\\b", "->", "::", "\\bdouble\\b", "\\bfloat\\b",
        "\\bnative\\b", "\\bThread\\b", "\\bRandom\\b", "\\bpackage\\b", "Exact\\b", "hashCode", "\\bpublic\\s+(static\\s+)?class\\b"};

    private static int wrong = 0;

    private static void check(boolean holds, String what) {
        if (!holds) {
            wrong++;
            System.out.println("not so: " + what);
        }
    }

    public static void main(String[] args) throws IOException {
        checkFace();
        checkNested();
        checkSource();
        System.out.println(wrong == 0 ? "the face and the source are as they should be" : wrong + " things are not as they should be");
        if (wrong != 0) {
            System.exit(1);
        }
    }

    private static void checkFace() {
        check(Modifier.isFinal(LoftTree.class.getModifiers()) && Modifier.isPublic(LoftTree.class.getModifiers()), "public final");
        check(LoftTree.class.getDeclaredConstructors().length == 1 && LoftTree.class.getConstructors().length == 1, "one constructor");
        Set<String> due = new TreeSet<>();
        for (String line : FACE.split(";")) {
            due.add(line);
        }
        Set<String> found = new TreeSet<>();
        Set<String> names = new TreeSet<>();
        for (Method m : LoftTree.class.getDeclaredMethods()) {
            if (Modifier.isPublic(m.getModifiers())) {
                found.add(told(m));
                names.add(m.getName());
            } else {
                check(Modifier.isPrivate(m.getModifiers()), m + " is private");
            }
        }
        check(found.equals(due), "the methods are " + due + ", but: " + found);
        for (Class<?> c : allClasses()) {
            for (Method m : c.getDeclaredMethods()) {
                check(c == LoftTree.class && Modifier.isPublic(m.getModifiers()) || !names.contains(m.getName()), m + " bears a public name");
                check(m.getParameterCount() <= 7, m + " has at most seven parameters");
            }
        }
        for (Field f : LoftTree.class.getDeclaredFields()) {
            boolean isConstant = f.getName().equals("NONE") || f.getName().equals("NEVER");
            check(isConstant ? Modifier.isPublic(f.getModifiers()) : Modifier.isPrivate(f.getModifiers()), f + " is seen as it should be");
        }
    }

    private static String told(Method m) {
        StringBuilder s = new StringBuilder(m.getReturnType() + " " + m.getName() + "(");
        for (int i = 0; i < m.getParameterCount(); i++) {
            s.append(i > 0 ? ", " : "").append(m.getParameterTypes()[i]);
        }
        return s.append(")").toString();
    }

    private static Set<Class<?>> allClasses() {
        Set<Class<?>> all = new java.util.LinkedHashSet<>();
        all.add(LoftTree.class);
        for (Class<?> c : LoftTree.class.getDeclaredClasses()) {
            all.add(c);
        }
        return all;
    }

    private static void checkNested() {
        check(allClasses().size() <= 12, "at most twelve classes");
        for (Class<?> c : allClasses()) {
            check(c == LoftTree.class || Modifier.isStatic(c.getModifiers()), c + " is static");
            int fields = 0;
            for (Field f : c.getDeclaredFields()) {
                if (Modifier.isStatic(f.getModifiers())) {
                    check(Modifier.isFinal(f.getModifiers()), f + " is final");
                } else {
                    fields++;
                }
            }
            check(fields <= 20, c + " has at most twenty fields, but " + fields);
        }
    }

    private static void checkSource() throws IOException {
        String source = Files.readString(Path.of("src/main/java/LoftTree.java"));
        String code = source.replaceAll("(?s)/\\*.*?\\*/", "").replaceAll("//[^\n]*", "").replaceAll("\"[^\"\n]*\"", "\"\"");
        for (String pattern : RULED_OUT) {
            Matcher m = Pattern.compile(pattern).matcher(code);
            check(!m.find(), pattern + " does not stand in the source");
        }
        Matcher imports = Pattern.compile("import\\s+([^;]+);").matcher(code);
        while (imports.find()) {
            check(imports.group(1).equals("java.util.Arrays"), imports.group(1) + " is imported");
        }
        int length = 0;
        for (String line : source.split("\n")) {
            length = line.matches("    (    )?(public|private|static|final|void|int|long|boolean|[A-Z]\\w+)\\b.*\\) \\{") ? 0 : length + 1;
            check(!line.matches("    (    )?\\}") || length <= 60, "a method has at most sixty lines, but: " + length);
        }
    }
}
