import java.io.IOException;
import java.lang.reflect.Constructor;
import java.lang.reflect.Field;
import java.lang.reflect.Method;
import java.lang.reflect.Modifier;
import java.nio.file.Files;
import java.nio.file.Path;
import java.util.Set;
import java.util.TreeSet;
import java.util.regex.Matcher;
import java.util.regex.Pattern;

/** The public face, and the rules of LANGUAGE.md that can be seen from outside (run from the project's folder). */
public final class FaceTest {
    private static final Check check = new Check();

    private static final String FACE = "int row(int,int,int)|int set(int,int,int)|int copy(int,int,int,int,int)"
        + "|int drop(int)|int feed(int)|int roof()|int fault()|int undo()|int hours(int)|int send(int,int)"
        + "|int let(int,int)|int weigh(int,int)|int blow(int,int)|int paper(int,int)|int force(int)|int stand(int)"
        + "|int ahead(int,int,int)|int when(int,int)|int policy(int)|int pull(int)|int sends(int,int,int)"
        + "|int lets(int,int,int)|int light(int,int)|int gust(int)|int quarrels(int)|int who(int,int,int,int,int)"
        + "|int winds(int,int,int,int,int)|int tapes(int,int,int,int,int)|long calm(int,int,int,int)"
        + "|int drawn(int,int,int)|int image(int)|int restore(int)|int kind(int)|int as(int,int)|int ask(int,int)"
        + "|int trace(int)|int count(int)|int status()";

    public static void main(String[] args) throws IOException {
        constants();
        face();
        inside();
        source();
        check.end();
    }

    private static void constants() {
        check.due("NONE", KiteTrays.NONE, -1000000);
        check.due("BAD", KiteTrays.BAD, -1000001);
        check.due("STATE", KiteTrays.STATE, -1000002);
        check.due("FULL", KiteTrays.FULL, -1000003);
    }

    private static void is(String what, boolean holds) {
        check.due(what, holds ? 1 : 0, 1);
    }

    private static void face() {
        is("the class is public and final", Modifier.isPublic(KiteTrays.class.getModifiers())
            && Modifier.isFinal(KiteTrays.class.getModifiers()));
        Set<String> due = new TreeSet<>(Set.of(FACE.split("\\|")));
        Set<String> names = new TreeSet<>();
        for (Method m : KiteTrays.class.getDeclaredMethods()) {
            if (Modifier.isPrivate(m.getModifiers()) || m.isSynthetic()) {
                continue;
            }
            is(told(m) + " is due", due.remove(told(m)) && Modifier.isPublic(m.getModifiers()));
            is(told(m) + " is not static", !Modifier.isStatic(m.getModifiers()));
            names.add(m.getName());
        }
        is("missing: " + due, due.isEmpty());
        for (Method m : KiteTrays.class.getDeclaredMethods()) {
            is("private " + m.getName(), !Modifier.isPrivate(m.getModifiers()) || !names.contains(m.getName()));
        }
        Constructor<?>[] made = KiteTrays.class.getDeclaredConstructors();
        is("one public constructor", made.length == 1 && Modifier.isPublic(made[0].getModifiers()));
        for (Field f : KiteTrays.class.getDeclaredFields()) {
            boolean isConstant = Set.of("NONE", "BAD", "STATE", "FULL").contains(f.getName());
            is(f.getName(), isConstant ? Modifier.isPublic(f.getModifiers()) : Modifier.isPrivate(f.getModifiers()));
            is(f.getName() + " is no static state", !Modifier.isStatic(f.getModifiers()) || Modifier.isFinal(f.getModifiers()));
        }
    }

    private static String told(Method m) {
        StringBuilder told = new StringBuilder(m.getReturnType().getName()).append(' ').append(m.getName()).append('(');
        for (Class<?> type : m.getParameterTypes()) {
            told.append(told.charAt(told.length() - 1) == '(' ? "" : ",").append(type.getName());
        }
        return told.append(')').toString();
    }

    private static void inside() {
        Class<?>[] classes = KiteTrays.class.getDeclaredClasses();
        is("twelve classes at most", classes.length < 12);
        for (Class<?> c : classes) {
            int how = c.getModifiers();
            is(c.getName() + " is static, not public", Modifier.isStatic(how) && !Modifier.isPublic(how) && !Modifier.isProtected(how));
            is(c.getName() + " has a place in the class", c.getEnclosingMethod() == null);
            int fields = 0;
            for (Field f : c.getDeclaredFields()) {
                boolean isStatic = Modifier.isStatic(f.getModifiers());
                is(c.getName() + "." + f.getName() + " is no static state", !isStatic || Modifier.isFinal(f.getModifiers()));
                fields += isStatic ? 0 : 1;
            }
            is(c.getName() + " has twenty fields at most", fields <= 20);
            for (Method m : c.getDeclaredMethods()) {
                is(c.getName() + "." + m.getName() + " takes seven at most", m.getParameterCount() <= 7);
                is(c.getName() + "." + m.getName() + " bears a name of its own", !FACE.contains(" " + m.getName() + "("));
            }
        }
    }

    private static void source() throws IOException {
        String text = Files.readString(Path.of("src/main/java/KiteTrays.java"));
        String code = text.replaceAll("(?s)/\\*.*?\\*/", "").replaceAll("//[^\n]*", "");
        String[] ruledOut = {"\\bthrow\\b", "\\bthrows\\b", "\\btry\\b", "\\bcatch\\b", "\\bsynchronized\\b", "\\bassert\\b", "->",
            "::", "\\bpackage\\b", "\\bimport\\b", "\\bprotected\\b", "\\bequals\\b", "\\bhashCode\\b", "\\bvolatile\\b",
            "Exact\\b", "\\bstatic\\s*\\{", "\\bSystem\\.(?!arraycopy)", "\\bvar\\b", "\\bdouble\\b", "\\bfloat\\b"};
        for (String word : ruledOut) {
            is("without " + word, !Pattern.compile(word).matcher(code).find());
        }
        is("signs 1 to 127", text.chars().allMatch(c -> c < 128));
        // A method's lines, by where it begins and its closing brace stand.
        Matcher m = Pattern.compile("(?m)^( {4,8})\\S[^;=\n]*\\) \\{$").matcher(code);
        while (m.find()) {
            int end = code.indexOf("\n" + m.group(1) + "}\n", m.end());
            long lines = code.substring(m.start(), end).lines().count();
            is("sixty lines at most: " + m.group().trim(), lines <= 60);
            boolean isConstructor = m.group().trim().matches("(public )?[A-Z]\\w*\\(.*");
            boolean makes = Pattern.compile("\\bnew\\b").matcher(code.substring(m.start(), end)).find();
            is("objects are made in constructors alone: " + m.group().trim(), isConstructor || !makes);
        }
    }
}
