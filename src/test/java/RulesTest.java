import java.io.IOException;
import java.lang.reflect.Array;
import java.lang.reflect.Field;
import java.lang.reflect.Member;
import java.lang.reflect.Method;
import java.lang.reflect.Modifier;
import java.nio.file.Files;
import java.nio.file.Path;
import java.util.ArrayList;
import java.util.IdentityHashMap;
import java.util.List;
import java.util.Map;
import java.util.Set;
import java.util.TreeSet;
import java.util.regex.Matcher;
import java.util.regex.Pattern;

/** The face of the class, and the rules of LANGUAGE.md as far as the text and the compiled class show them. */
public final class RulesTest {
    private static final String[] BARRED = {
        "\\bthrow\\b", "\\bthrows\\b", "\\btry\\b", "\\bcatch\\b", "\\bsynchronized\\b", "\\bassert\\b", "->", "::",
        "\\bimport\\b", "\\bpackage\\b", "static\\s*\\{", "Exact\\b", "\\bthread\\b", "\\bSystem\\.(?!arraycopy)",
        "\\bnew\\s+int\\[[^\\]]*\\]\\s*\\[", "\\bvolatile\\b", "\\btransient\\b", "\\bnull\\b", "\\bdouble\\b", "\\bfloat\\b",
    };

    private static int wrong = 0;

    private static void hold(boolean holds, String what) {
        if (!holds) {
            wrong++;
            System.out.println("does not hold: " + what);
        }
    }

    private static String told(Method m) {
        StringBuilder text = new StringBuilder(m.getReturnType().getSimpleName()).append(' ').append(m.getName()).append('(');
        for (int i = 0; i < m.getParameterCount(); i++) {
            text.append(i > 0 ? "," : "").append(m.getParameterTypes()[i].getSimpleName());
        }
        return text.append(')').toString();
    }

    /** The methods as the document writes them, without the names of what they take. */
    private static Set<String> dueFace() throws IOException {
        String document = Files.readString(Path.of("../shared/DOC.md"));
        Set<String> due = new TreeSet<>();
        Matcher m = Pattern.compile("    public (\\w+ \\w+\\([^)]*\\));\n").matcher(document);
        while (m.find()) {
            due.add(m.group(1).replaceAll(" \\w+([,)])", "$1").replace(", ", ","));
        }
        hold(due.size() == 32, "1: the document's face has 32 methods: " + due);
        return due;
    }

    private static void face() throws IOException, ReflectiveOperationException {
        Class<?> c = StruckBeats.class;
        Set<String> due = dueFace();
        Set<String> found = new TreeSet<>();
        Set<String> names = new TreeSet<>();
        List<Member> members = new ArrayList<>(List.of(c.getDeclaredFields()));
        for (Method m : c.getDeclaredMethods()) {
            if (Modifier.isPublic(m.getModifiers())) {
                found.add(told(m));
                names.add(m.getName());
                hold(!Modifier.isStatic(m.getModifiers()), "1: not static: " + m.getName());
            } else {
                members.add(m);
            }
        }
        hold(due.equals(found), "1: the face: " + due + " but " + found);
        for (Member m : members) {
            hold(Modifier.isPrivate(m.getModifiers()) || m.getName().equals("NONE"), "1: private: " + m.getName());
        }
        hold(c.getDeclaredConstructors().length == 1 && c.getConstructors().length == 1, "1: one public constructor");
        hold(c.getConstructor().getParameterCount() == 0, "1: the constructor takes nothing");
        hold(Modifier.isFinal(c.getModifiers()) && Modifier.isPublic(c.getModifiers()), "1: public and final");
        hold(c.getDeclaredClasses().length + 1 <= 12, "11: twelve classes");
        for (Class<?> inner : c.getDeclaredClasses()) {
            hold(Modifier.isStatic(inner.getModifiers()) && !Modifier.isPublic(inner.getModifiers()), "2: " + inner.getName());
            members(inner, names);
        }
        members(c, Set.of());
    }

    private static void members(Class<?> c, Set<String> publicNames) {
        int fields = 0;
        for (Field f : c.getDeclaredFields()) {
            boolean isStatic = Modifier.isStatic(f.getModifiers());
            hold(!isStatic || Modifier.isFinal(f.getModifiers()), "5: final: " + f);
            hold(!isStatic || f.getType() == int.class || f.getType() == String.class, "5: a constant: " + f);
            fields += isStatic ? 0 : 1;
        }
        hold(fields <= 20, "11: twenty fields: " + c);
        for (Method m : c.getDeclaredMethods()) {
            hold(m.getParameterCount() <= 7, "11: seven parameters: " + m);
            hold(!publicNames.contains(m.getName()), "1: the name of a public one: " + m);
        }
    }

    private static void text() throws IOException {
        String whole = Files.readString(Path.of("src/main/java/StruckBeats.java"));
        String text = Pattern.compile("/\\*.*?\\*/|//[^\n]*", Pattern.DOTALL).matcher(whole).replaceAll("");
        text = Pattern.compile("\"[^\"\n]*\"|'[^'\n]'").matcher(text).replaceAll("0");
        for (String barred : BARRED) {
            Matcher m = Pattern.compile(barred).matcher(text);
            hold(!m.find(), "barred: " + barred);
        }
        hold(whole.chars().allMatch(c -> c >= 9 && c < 127), "4: plain signs");
        int start = 0;
        String[] lines = whole.split("\n");
        for (int i = 0; i < lines.length; i++) {
            if (lines[i].matches("( {4}| {8})[\\w].*\\) \\{")) {
                start = i;
            }
            if (lines[i].matches("( {4}| {8})\\}")) {
                hold(i - start < 60 || lines[i].length() < 9 && lines[start].startsWith("        "), "11: short: " + lines[start]);
            }
        }
    }

    /** Objects and elements of one city, the arrays' own and their elements. */
    private static void room() throws IllegalAccessException {
        Map<Object, Boolean> seen = new IdentityHashMap<>();
        List<Object> open = new ArrayList<>(List.of(new StruckBeats()));
        int elements = 0;
        while (!open.isEmpty()) {
            Object o = open.remove(open.size() - 1);
            if (seen.put(o, true) != null) {
                continue;
            }
            if (o.getClass().isArray()) {
                elements += Array.getLength(o);
                continue;
            }
            for (Field f : o.getClass().getDeclaredFields()) {
                if (!Modifier.isStatic(f.getModifiers())) {
                    f.setAccessible(true);
                    elements++;
                    if (!f.getType().isPrimitive() && f.get(o) != null) {
                        open.add(f.get(o));
                    }
                }
            }
        }
        System.out.println("one city: " + seen.size() + " objects, " + elements + " elements");
        hold(seen.size() <= 100 && elements <= 3500, "12: the room of one city");
    }

    public static void main(String[] args) throws Exception {
        face();
        text();
        room();
        System.out.println(wrong + " wrong");
        if (wrong != 0) {
            System.exit(1);
        }
    }
}
