import java.io.IOException;
import java.lang.reflect.Constructor;
import java.lang.reflect.Field;
import java.lang.reflect.Member;
import java.lang.reflect.Method;
import java.lang.reflect.Modifier;
import java.nio.file.Files;
import java.nio.file.Path;
import java.util.ArrayList;
import java.util.Collections;
import java.util.List;
import java.util.Set;
import java.util.TreeSet;
import java.util.regex.Matcher;
import java.util.regex.Pattern;

/** The face of the class, as the document has it, and what of LANGUAGE.md can be seen without reading. */
public final class FaceTest {
    private static final String[] BANNED = {
        "\\bimport\\b", "\\bpackage\\b", "->", "::", "\\bfinally\\b", "\\bsynchronized\\b", "\\bassert\\b",
        "\\btry\\s*\\(", "\\bvar\\b", "\\bvolatile\\b", "\\btransient\\b", "\\bnative\\b", "\\bprotected\\b",
        "Exact\\s*\\(", "\\bgetMessage\\b", "\\bhashCode\\b", "\\bgetClass\\b", "\\bRandom\\b", "\\bThread\\b",
        "\\bObject\\b", "\\bcatch\\b", "\\bstatic\\s*\\{", "System\\.(?!arraycopy)", "Math\\.(?!max|min)", "\"\\s*\\+",
        "\\+\\s*\""
    };

    public static void main(String[] args) throws IOException {
        String document = Files.readString(Path.of("../shared/DOC.md"));
        String source = Files.readString(Path.of("src/main/java/JournalDisk.java"));
        Check.test("promises 1 to 65: the face is that of the document", () -> face(document));
        Check.test("rule 1: nothing else is to be seen", FaceTest::nothingElse);
        Check.test("rule 1: no private method bears the name of a public one", FaceTest::privateNames);
        Check.test("rules 4 to 13: no word that they rule out", () -> words(source));
        Check.test("rule 5: static fields are final constants", FaceTest::statics);
        Check.test("rule 11: parameters, fields, classes, lines", () -> sizes(source));
        Check.end();
    }

    private static void face(String document) {
        int from = document.indexOf("public final class JournalDisk {");
        String block = document.substring(from, document.indexOf("```", from));
        Set<String> due = new TreeSet<>();
        Matcher rows = Pattern.compile("public (\\w+) (\\w+)\\(([^)]*)\\)([^;]*);").matcher(block);
        while (rows.find()) {
            String types = rows.group(3).replaceAll("(\\w+) \\w+", "$1");
            due.add(rows.group(1) + " " + rows.group(2) + "(" + types + ")" + rows.group(4));
        }
        Check.is(due.size(), 64);
        Set<String> got = new TreeSet<>();
        for (Method m : JournalDisk.class.getDeclaredMethods()) {
            if (Modifier.isPublic(m.getModifiers())) {
                Check.is(Modifier.isStatic(m.getModifiers()), false);
                String thrown = names(m.getExceptionTypes());
                got.add(m.getReturnType().getSimpleName() + " " + m.getName() + "(" + names(m.getParameterTypes())
                        + ")" + (thrown.isEmpty() ? "" : " throws " + thrown));
            }
        }
        Check.same("", got, due);
        Constructor<?>[] made = JournalDisk.class.getDeclaredConstructors();
        Check.is(made.length, 1);
        Check.is(Modifier.isPublic(made[0].getModifiers()), true);
        Check.is(made[0].getParameterCount(), 0);
        Check.is(Modifier.isFinal(JournalDisk.class.getModifiers()), true);
        Check.is(Modifier.isPublic(JournalDisk.class.getModifiers()), true);
    }

    private static String names(Class<?>[] types) {
        List<String> all = new ArrayList<>();
        for (Class<?> type : types) {
            all.add(type.getSimpleName());
        }
        return String.join(", ", all);
    }

    private static void nothingElse() {
        List<Member> members = new ArrayList<>();
        Collections.addAll(members, JournalDisk.class.getDeclaredFields());
        Collections.addAll(members, JournalDisk.class.getDeclaredMethods());
        for (Member m : members) {
            boolean isFace = m instanceof Method && Modifier.isPublic(m.getModifiers());
            Check.same(m.getName() + " ", isFace || Modifier.isPrivate(m.getModifiers()) || m.isSynthetic(), true);
        }
        for (Class<?> inside : JournalDisk.class.getDeclaredClasses()) {
            int is = inside.getModifiers();
            Check.is(Modifier.isStatic(is) && !Modifier.isPublic(is) && !Modifier.isProtected(is), true);
        }
    }

    private static void privateNames() {
        Set<String> open = new TreeSet<>();
        for (Method m : JournalDisk.class.getDeclaredMethods()) {
            if (Modifier.isPublic(m.getModifiers())) {
                open.add(m.getName());
            }
        }
        for (Method m : JournalDisk.class.getDeclaredMethods()) {
            if (!Modifier.isPublic(m.getModifiers())) {
                Check.same(m.getName() + " ", open.contains(m.getName()), false);
            }
        }
    }

    private static void words(String source) {
        String code = source.replaceAll("(?s)/\\*.*?\\*/", "").replaceAll("//[^\\n]*", "");
        for (String word : BANNED) {
            Matcher found = Pattern.compile(word).matcher(code);
            Check.same(word + " ", found.find(), false);
        }
        for (int k = 0; k < source.length(); k++) {
            char sign = source.charAt(k);
            if (sign != '\n' && (sign < 32 || sign > 126)) {
                Check.same("sign " + k + " ", (int) sign, "a printed one");
            }
        }
    }

    private static void statics() {
        List<Class<?>> all = new ArrayList<>(List.of(JournalDisk.class.getDeclaredClasses()));
        all.add(JournalDisk.class);
        for (Class<?> type : all) {
            for (Field f : type.getDeclaredFields()) {
                boolean isStatic = Modifier.isStatic(f.getModifiers());
                boolean isPlain = f.getType().isPrimitive() || f.getType() == String.class;
                Check.same(f.getName() + " ", !isStatic || (Modifier.isFinal(f.getModifiers()) && isPlain), true);
            }
        }
    }

    private static void sizes(String source) {
        List<Class<?>> all = new ArrayList<>(List.of(JournalDisk.class.getDeclaredClasses()));
        all.add(JournalDisk.class);
        Check.same("classes ", all.size() <= 12, true);
        for (Class<?> type : all) {
            int fields = 0;
            for (Field f : type.getDeclaredFields()) {
                fields += Modifier.isStatic(f.getModifiers()) ? 0 : 1;
            }
            Check.same(type.getSimpleName() + ", fields ", fields <= 20, true);
            for (Method m : type.getDeclaredMethods()) {
                Check.same(m.getName() + ", parameters ", m.getParameterCount() <= 7, true);
            }
        }
        // A method begins at an indent of 4 or 8 and ends with a brace at the same one.
        Matcher bodies = Pattern.compile("(?ms)^( {4}| {8})(?:[\\w\\[\\]<>]+ )+\\w+\\([^;{]*\\{$.*?^\\1\\}$")
                .matcher(source);
        int found = 0;
        while (bodies.find()) {
            found++;
            Check.same("lines of a method ", bodies.group().split("\n").length <= 60, true);
        }
        Check.is(found > 100, true);
    }
}
