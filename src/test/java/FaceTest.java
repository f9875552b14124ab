import java.lang.reflect.Constructor;
import java.lang.reflect.Field;
import java.lang.reflect.Member;
import java.lang.reflect.Method;
import java.lang.reflect.Modifier;
import java.nio.file.Files;
import java.nio.file.Path;
import java.util.Arrays;
import java.util.Set;
import java.util.TreeSet;
import java.util.regex.Matcher;
import java.util.regex.Pattern;

/** The public face, and what of LANGUAGE.md can be seen from outside: rules 1, 2, 4, 5, 6, 11. */
public final class FaceTest {
    private static final String FACE = """
        int feed(int,int,int,int,int)
        boolean end(int)
        void day(int,int) IllegalArgumentException
        void old(int,int) IndexOutOfBoundsException IllegalArgumentException
        int ring(int,int,int) IndexOutOfBoundsException IllegalArgumentException
        int tell(int,int) IndexOutOfBoundsException IllegalArgumentException
        int word(int) IndexOutOfBoundsException
        int as(int,int) IndexOutOfBoundsException
        int led(int,int) IndexOutOfBoundsException
        int job(int,int,int,int,boolean) IllegalArgumentException UnsupportedOperationException
        int fault()
        void shorter(int,int,int,int) IndexOutOfBoundsException IllegalArgumentException
        long words(int,boolean) IndexOutOfBoundsException
        int leans(int) IndexOutOfBoundsException
        int quarrel(int)
        int order(int)
        boolean way(int,int) IndexOutOfBoundsException IllegalArgumentException
        boolean drop(int) IndexOutOfBoundsException
        boolean again(int) IndexOutOfBoundsException
        int out(int) IllegalArgumentException IllegalStateException
        int minutes(int) IllegalArgumentException
        int look(int,int) IndexOutOfBoundsException NoSuchElementException
        boolean lamp(int,int,int) IndexOutOfBoundsException IllegalArgumentException
        int test(int,int) IndexOutOfBoundsException IllegalArgumentException
        long doubted()
        boolean doubt(int,int) IndexOutOfBoundsException NoSuchElementException
        int wanted(int,int,int,int,int) IndexOutOfBoundsException IllegalArgumentException
        int foretell(int,int,int) IndexOutOfBoundsException NoSuchElementException
        boolean far(int,int) IndexOutOfBoundsException
        void good(int,int,int,int,int) IndexOutOfBoundsException IllegalArgumentException
        void fleet(int,int,int,int,int) IllegalArgumentException
        long fill(boolean)
        long cost(int) IndexOutOfBoundsException
        int worker(int,int) IllegalArgumentException UnsupportedOperationException
        boolean alter(int,int,int) IndexOutOfBoundsException IllegalArgumentException IllegalStateException
        int pay(int,int) IndexOutOfBoundsException NoSuchElementException
        int wages()
        int plan(int,int) IllegalArgumentException
        int which(int,int,int) IndexOutOfBoundsException IllegalArgumentException
        int beside(boolean)
        int tear(int,int) NoSuchElementException
        int check()
        void image()
        boolean back()
        int count(int)
        """;

    private static int wrong = 0;

    public static void main(String[] args) throws Exception {
        face();
        inside();
        source(Files.readString(Path.of("src/main/java/TeaNight.java")));
        System.out.println(wrong == 0 ? "all answers are as due" : wrong + " answers are not as due");
        if (wrong != 0) {
            System.exit(1);
        }
    }

    private static void due(String what, boolean holds) {
        if (!holds) {
            wrong++;
            System.out.println("not so: " + what);
        }
    }

    private static boolean isPrivate(Member m) {
        return Modifier.isPrivate(m.getModifiers());
    }

    private static String told(Method m) {
        StringBuilder s = new StringBuilder(m.getReturnType() + " " + m.getName() + "(");
        for (int i = 0; i < m.getParameterCount(); i++) {
            s.append(i > 0 ? "," : "").append(m.getParameterTypes()[i]);
        }
        s.append(")");
        for (Class<?> e : m.getExceptionTypes()) {
            s.append(" ").append(e.getSimpleName());
        }
        return s.toString();
    }

    private static void face() throws Exception {
        Set<String> want = new TreeSet<>(Arrays.asList(FACE.strip().split("\\s*\\n\\s*")));
        Set<String> got = new TreeSet<>();
        Set<String> names = new TreeSet<>();
        for (Method m : TeaNight.class.getDeclaredMethods()) {
            if (Modifier.isPublic(m.getModifiers())) {
                got.add(told(m));
                names.add(m.getName());
                due(m + " is of the object", !Modifier.isStatic(m.getModifiers()));
            } else {
                due(m + " is private", isPrivate(m) || m.isSynthetic());
            }
        }
        due("the face is " + want + " and not " + got, got.equals(want));
        for (Method m : TeaNight.class.getDeclaredMethods()) {
            due(m + " bears no name of the face", !isPrivate(m) || !names.contains(m.getName()));
        }
        for (Field f : TeaNight.class.getDeclaredFields()) {
            due(f + " is private", isPrivate(f) || f.getName().equals("NONE"));
        }
        due("NONE is a constant", Modifier.toString(TeaNight.class.getField("NONE").getModifiers()).equals("public static final"));
        Constructor<?>[] made = TeaNight.class.getDeclaredConstructors();
        due("one public constructor", made.length == 1 && Modifier.isPublic(made[0].getModifiers()));
        due("public and final", Modifier.toString(TeaNight.class.getModifiers()).equals("public final"));
    }

    private static void inside() {
        Class<?>[] inside = TeaNight.class.getDeclaredClasses();
        due("some twelve classes", inside.length + 1 <= 12);
        for (Class<?> c : inside) {
            due(c + " is static", Modifier.isStatic(c.getModifiers()));
            due(c + " is not public", !Modifier.isPublic(c.getModifiers()) && !Modifier.isProtected(c.getModifiers()));
        }
        for (Class<?> c : inside) {
            int fields = 0;
            for (Field f : c.getDeclaredFields()) {
                fields += Modifier.isStatic(f.getModifiers()) ? 0 : 1;
                due(f + " is final", !Modifier.isStatic(f.getModifiers()) || Modifier.isFinal(f.getModifiers()));
            }
            due(c + " has some twenty fields: " + fields, fields <= 20);
            for (Method m : c.getDeclaredMethods()) {
                due(m + " takes seven at most", m.getParameterCount() <= 7);
                due(m + " is not public", !Modifier.isPublic(m.getModifiers()));
            }
        }
    }

    private static void source(String all) {
        String s = all.replaceAll("(?s)/\\*.*?\\*/", "").replaceAll("//[^\n]*", "").replaceAll("\"[^\"\n]*\"", "\"\"");
        String[] never = {"->", "::", "\\bfinally\\b", "\\btry\\b", "\\bcatch\\b", "\\bsynchronized\\b", "\\bassert\\b", "\\binstanceof\\b",
            "\\bthrow (?!new )", "\\bequals\\(", "\\bhashCode\\b", "\\btoString\\b", "Exact\\(", "\\bSystem\\.(?!arraycopy)", "\\bprotected\\b",
            "\\bstatic \\{", "\\bwhile \\(true\\)", "\\bpackage\\b", "\\bdouble\\b", "\\bfloat\\b"};
        for (String n : never) {
            due("no " + n, !Pattern.compile(n).matcher(s).find());
        }
        Matcher imports = Pattern.compile("import ([^;]*);").matcher(s);
        while (imports.find()) {
            due("import of " + imports.group(1), Set.of("java.util.Arrays", "java.util.NoSuchElementException").contains(imports.group(1)));
        }
        Matcher library = Pattern.compile("\\b(Math|Arrays|Integer|Long|String)\\.(\\w+)").matcher(s);
        while (library.find()) {
            due("call of " + library.group(), Set.of("max", "min", "floorMod", "copyOf", "fill").contains(library.group(2)));
        }
        for (char c : all.toCharArray()) {
            due("signs of 1 to 127", c > 0 && c < 128);
        }
        shortMethods(all);
    }

    /** By their indent: a method begins at four or eight blanks, and ends with a brace there. */
    private static void shortMethods(String all) {
        String[] lines = all.split("\n");
        Pattern head = Pattern.compile("( {4}| {8})(?! )(?!.*\\b(class|enum|interface)\\b).*\\(.*");
        for (int i = 0; i < lines.length; i++) {
            Matcher m = head.matcher(lines[i]);
            if (m.matches() && !lines[i].contains(";") && !lines[i].contains("//")) {
                int end = i;
                while (end < lines.length && !lines[end].equals(m.group(1) + "}")) {
                    end++;
                }
                due("short: " + lines[i].strip(), end - i < 60);
            }
        }
    }
}
