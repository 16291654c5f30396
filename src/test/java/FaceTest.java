import java.lang.reflect.Constructor;
import java.lang.reflect.Field;
import java.lang.reflect.Method;
import java.lang.reflect.Modifier;
import java.nio.file.Files;
import java.nio.file.Path;
import java.util.ArrayList;
import java.util.Arrays;
import java.util.Collections;
import java.util.List;
import java.util.regex.Matcher;
import java.util.regex.Pattern;

/** The public face, member by member, and those rules of LANGUAGE.md that a look at the source can tell. */
public final class FaceTest {
    private static final Check check = new Check();
    private static final Path SOURCE = Path.of("src/main/java/WorkEnds.java");

    /** Each public method with how many ints it takes. */
    private static final String[] FACE = {"status/0", "feed/5", "load/1", "fault/1", "many/1", "node/2", "wire/2",
        "row/2", "letter/2", "watch/2", "lag/1", "bound/1", "best/1", "weights/1", "last/1", "ledger/3", "cutting/1",
        "recorded/2", "event/2", "begin/1", "plan/4", "drop/1", "wires/3", "add/0", "sleep/2", "cut/1", "tick/1",
        "mark/0", "back/0", "ends/0", "tells/1", "whole/1", "would/3", "with/5", "margin/2", "quickest/1", "enough/0"};

    public static void main(String[] args) throws Exception {
        face();
        source();
        check.end();
    }

    private static void face() throws Exception {
        Class<?> c = WorkEnds.class;
        check.holds("public and final", Modifier.isPublic(c.getModifiers()) && Modifier.isFinal(c.getModifiers()));
        List<String> open = new ArrayList<>();
        List<String> closed = new ArrayList<>();
        for (Method m : c.getDeclaredMethods()) {
            if (Modifier.isPrivate(m.getModifiers())) {
                closed.add(m.getName());
                continue;
            }
            open.add(m.getName() + "/" + m.getParameterCount());
            check.holds(m + " is public, no static, gives int", Modifier.isPublic(m.getModifiers())
                && !Modifier.isStatic(m.getModifiers()) && m.getReturnType() == int.class);
            for (Class<?> p : m.getParameterTypes()) {
                check.holds(m + " takes ints", p == int.class);
            }
            check.due(m + " throws", m.getExceptionTypes().length, 0);
        }
        List<String> due = new ArrayList<>(Arrays.asList(FACE));
        Collections.sort(due);
        Collections.sort(open);
        check.holds("the methods " + open, open.equals(due));
        for (String name : closed) {
            check.holds("private " + name + " bears the name of no public one",
                due.stream().noneMatch(d -> d.startsWith(name + "/")));
        }
        for (Field f : c.getDeclaredFields()) {
            boolean isNone = f.getName().equals("NONE");
            check.holds(f + " is " + (isNone ? "public" : "private"),
                isNone ? f.toString().equals("public static final int WorkEnds.NONE")
                    : Modifier.isPrivate(f.getModifiers()));
            check.holds(f + ": no static state", !Modifier.isStatic(f.getModifiers())
                || Modifier.isFinal(f.getModifiers()));
        }
        Constructor<?>[] made = c.getDeclaredConstructors();
        check.holds("one public constructor", made.length == 1 && Modifier.isPublic(made[0].getModifiers())
            && made[0].getParameterCount() == 0);
        int classes = 1;
        for (Class<?> inner : c.getDeclaredClasses()) {
            classes++;
            int how = inner.getModifiers();
            check.holds(inner + " is static, and not public", Modifier.isStatic(how) && !Modifier.isPublic(how)
                && !Modifier.isProtected(how));
            int fields = 0;
            for (Field f : inner.getDeclaredFields()) {
                fields += Modifier.isStatic(f.getModifiers()) ? 0 : 1;
                check.holds(f + ": no static state", !Modifier.isStatic(f.getModifiers())
                    || Modifier.isFinal(f.getModifiers()));
            }
            check.holds(inner + " has some twenty fields at most", fields <= 21);
            check.due(inner + " has classes in it", inner.getDeclaredClasses().length, 0);
        }
        check.holds("some twelve classes at most", classes <= 12);
    }

    private static void source() throws Exception {
        String text = Files.readString(SOURCE);
        for (char sign : text.toCharArray()) {
            check.holds("a sign from 1 to 127", sign >= 1 && sign <= 127);
        }
        String code = text.replaceAll("(?s)/\\*.*?\\*/", "").replaceAll("//[^\n]*", "").replaceAll("\"[^\"\n]*\"", "\"\"");
        String[] never = {"\\b(throw|throws|try|catch|synchronized|assert|package|double|float|native|transient|volatile)\\b",
            "->", "::", "\\w+Exact\\b", "\\b(System\\.(?!arraycopy)|Thread|Random|Runtime|Object)\\b",
            "\\b(equals|hashCode|toString|getClass|valueOf)\\s*\\(", "\\bstatic\\s*\\{", "\"\"\\s*\\+|\\+\\s*\"\"",
            "\\bwhile\\s*\\(\\s*true", "for\\s*\\(\\s*;\\s*;"};
        for (String pattern : never) {
            Matcher m = Pattern.compile(pattern).matcher(code);
            check.holds("no " + pattern + " in the source", !m.find());
        }
        Matcher imports = Pattern.compile("import ([^;]+);").matcher(code);
        while (imports.find()) {
            check.holds("import " + imports.group(1), imports.group(1).equals("java.util.Arrays"));
        }
        methods(code);
    }

    private static void methods(String code) {
        String[] lines = code.split("\n");
        Pattern head = Pattern.compile("^ {4}(?: {4})?[a-z][\\w\\[\\] ]*\\(([^()]*)\\) \\{$");
        int found = 0;
        for (int i = 0; i < lines.length; i++) {
            Matcher m = head.matcher(lines[i]);
            if (!m.matches()) {
                continue;
            }
            found++;
            String indent = lines[i].substring(0, lines[i].indexOf(lines[i].trim()));
            int end = i;
            while (end < lines.length && !lines[end].equals(indent + "}")) {
                end++;
            }
            check.holds(lines[i].trim() + " is short", end - i <= 60);
            check.holds(lines[i].trim() + " takes seven at most", m.group(1).split(",").length <= 7);
        }
        check.holds("the methods were found", found > 100);
    }
}
