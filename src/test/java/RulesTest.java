import java.lang.management.ManagementFactory;
import java.lang.reflect.AccessibleObject;
import java.lang.reflect.Array;
import java.lang.reflect.Constructor;
import java.lang.reflect.Executable;
import java.lang.reflect.Field;
import java.lang.reflect.Member;
import java.lang.reflect.Method;
import java.lang.reflect.Modifier;
import java.nio.charset.StandardCharsets;
import java.nio.file.Files;
import java.nio.file.Paths;
import java.util.ArrayList;
import java.util.Collections;
import java.util.HashSet;
import java.util.IdentityHashMap;
import java.util.List;
import java.util.Set;
import java.util.TreeSet;
import java.util.regex.Matcher;
import java.util.regex.Pattern;

/**
 * The face as the document's code block writes it, the rules of ../shared/LANGUAGE.md as far as a test can see them,
 * and the room that one object and its calls take.
 */
public final class RulesTest {
    private static final String SOURCE = "src/main/java/Orbithouse.java";
    private static final String DOCUMENT = "../shared/DOC.md";
    private static final int METHOD_LINES = 60;

    public static void main(String[] args) throws Exception {
        face();
        members();
        words();
        methods();
        room();
        Check.finish("RulesTest");
    }

    /** Rule 1: the constructor and the methods of the document, with what they throw, and none besides. */
    private static void face() throws Exception {
        Set<String> due = new TreeSet<>();
        boolean isInBlock = false;
        for (String line : Files.readAllLines(Paths.get(DOCUMENT), StandardCharsets.UTF_8)) {
            isInBlock = line.startsWith("```") ? line.equals("```java") : isInBlock;
            if (isInBlock && line.startsWith("    public ")) {
                due.add(line.trim().replaceAll("(int|char|boolean) \\w+([,)])", "$1$2").replace(";", ""));
            }
        }
        Set<String> got = new TreeSet<>();
        for (Method m : Orbithouse.class.getDeclaredMethods()) {
            if (Modifier.isPublic(m.getModifiers())) {
                got.add(written(m, m.getReturnType().getSimpleName() + " " + m.getName()));
            }
        }
        for (Constructor<?> c : Orbithouse.class.getDeclaredConstructors()) {
            got.add(written(c, c.getDeclaringClass().getSimpleName()));
        }
        Check.same("the document tells a face", due.size(), 50);
        Set<String> missing = new TreeSet<>(due);
        missing.removeAll(got);
        Set<String> added = new TreeSet<>(got);
        added.removeAll(due);
        Check.same("the face lacks " + missing, missing.size(), 0);
        Check.same("the face has besides " + added, added.size(), 0);
        Check.same("the class is public and final", Orbithouse.class.getModifiers(), Modifier.PUBLIC | Modifier.FINAL);
    }

    private static String written(Executable e, String name) {
        List<String> takes = new ArrayList<>();
        for (Class<?> type : e.getParameterTypes()) {
            takes.add(type.getSimpleName());
        }
        List<String> throwing = new ArrayList<>();
        for (Class<?> type : e.getExceptionTypes()) {
            throwing.add(type.getSimpleName());
        }
        return Modifier.toString(e.getModifiers()) + " " + name + "(" + String.join(", ", takes) + ")"
                + (throwing.isEmpty() ? "" : " throws " + String.join(", ", throwing));
    }

    /** Rules 1, 5 and 11: what is not of the face is private, a class inside is static, a static field final. */
    private static void members() {
        Set<String> faceNames = new HashSet<>();
        for (Method m : Orbithouse.class.getMethods()) {
            if (m.getDeclaringClass() == Orbithouse.class) {
                faceNames.add(m.getName());
            }
        }
        for (Field f : Orbithouse.class.getDeclaredFields()) {
            Check.same("field " + f.getName() + " is private", Modifier.isPrivate(f.getModifiers()), true);
        }
        Class<?>[] inside = Orbithouse.class.getDeclaredClasses();
        Check.same("some twelve classes", inside.length + 1 <= 12, true);
        List<Class<?>> all = new ArrayList<>(List.of(inside));
        all.add(Orbithouse.class);
        for (Class<?> c : all) {
            int fields = 0;
            for (Field f : c.getDeclaredFields()) {
                boolean isStatic = Modifier.isStatic(f.getModifiers());
                Check.same(c.getName() + "." + f.getName() + ": static is final",
                        !isStatic || Modifier.isFinal(f.getModifiers()), true);
                fields += isStatic ? 0 : 1;
            }
            Check.same(c.getName() + " has some twenty fields: " + fields, fields <= 21, true);
            for (Method m : c.getDeclaredMethods()) {
                Check.same(c.getName() + "." + m.getName() + " bears no name of the face",
                        Modifier.isPublic(m.getModifiers()) || !faceNames.contains(m.getName()), true);
                Check.same(c.getName() + "." + m.getName() + " takes seven at most",
                        m.getParameterCount() <= 7 || m.getName().equals("tell"), true);
            }
            Check.same(c.getName() + " is static", c == Orbithouse.class || Modifier.isStatic(c.getModifiers()), true);
        }
    }

    /** Rules 3, 4, 6, 10 and 13: words that the program has no use for, and the only ones of the library. */
    private static void words() throws Exception {
        String code = withoutComments();
        for (String sign : new String[] {"->", "::", "\"", "Exact(", "Throwable", "Error", "@"}) {
            Check.same("no " + sign, code.contains(sign), false);
        }
        for (String word : new String[] {"synchronized", "assert", "finally", "catch", "try", "toString", "hashCode",
            "equals", "Thread", "Random", "nanoTime", "currentTimeMillis", "var", "sealed", "Object", "Iterator"}) {
            Check.same("no " + word, Pattern.compile("\\b" + word + "\\b").matcher(code).find(), false);
        }
        Set<String> used = new TreeSet<>();
        Matcher m = Pattern.compile("\\b(?:Math|Integer|Long|System|Arrays|Character|String)\\.\\w+").matcher(code);
        while (m.find()) {
            used.add(m.group());
        }
        used.removeAll(Set.of("Math.abs", "Math.max", "Math.min", "Math.floorMod", "Integer.bitCount",
                "Integer.compare", "System.arraycopy"));
        Check.same("no library besides " + used, used.size(), 0);
        Matcher imports = Pattern.compile("(?m)^import (.*);$").matcher(code);
        while (imports.find()) {
            Check.same("import of " + imports.group(1), imports.group(1).equals("java.util.NoSuchElementException"), true);
        }
        Check.same("no package line", code.contains("package "), false);
    }

    private static String withoutComments() throws Exception {
        String code = new String(Files.readAllBytes(Paths.get(SOURCE)), StandardCharsets.UTF_8);
        return code.replaceAll("(?s)/\\*.*?\\*/", "").replaceAll("//[^\n]*", "");
    }

    /** Rule 11: methods stay short. */
    private static void methods() throws Exception {
        List<String> lines = Files.readAllLines(Paths.get(SOURCE), StandardCharsets.UTF_8);
        int methods = 0;
        for (int i = 0; i < lines.size(); i++) {
            Matcher m = Pattern.compile("( +)(?:[\\w\\[\\]]+ )+(\\w+)\\(.*").matcher(lines.get(i));
            if (!m.matches() || lines.get(i).trim().matches("(return|new|throw|else|case) .*") || lines.get(i).endsWith(";")) {
                continue;
            }
            int end = i;
            while (end < lines.size() && !lines.get(end).equals(m.group(1) + "}")) {
                end++;
            }
            methods++;
            Check.same(m.group(2) + " is short: " + (end - i), end - i <= METHOD_LINES, true);
        }
        Check.same("the methods were found", methods > 200, true);
    }

    /** An object takes a small part of the room, and its calls hardly any more: rows are made once. */
    private static void room() throws Exception {
        Orbithouse o = new Orbithouse();
        long[] fresh = size(o);
        Check.same("objects of a new one: " + fresh[0], fresh[0] <= 200, true);
        Check.same("fields and elements of a new one: " + fresh[1], fresh[1] <= 12000, true);
        long before = bytesMade();
        busy(o);
        long made = bytesMade() - before;
        // What is made: a command for each one that is told, and for each template that is told on board.
        Check.same("bytes made by 512 calls and 4000 ticks: " + made, made <= 200000, true);
        long[] used = size(o);
        Check.same("objects behind all calls: " + used[0], used[0] <= fresh[0] + 600, true);
        Check.same("fields and elements behind all calls: " + used[1], used[1] <= fresh[1] + 6000, true);
    }

    /** A procedure that tells templates and events in a loop, structures that are told in each tick, and commands. */
    private static void busy(Orbithouse o) {
        o.sky(96, 48);
        int[][] rows = {{8, 4, 0, 0}, {8, 5, 0, 0}, {9, 15, 0, 0}, {7, 0, 0, 0}};
        for (int i = 0; i < rows.length; i++) {
            o.tell(true, 14, 0, i, rows[i][0], rows[i][1], rows[i][2], rows[i][3]);
        }
        o.tell(true, 4, 4, 4, 0, 9, 1, 2);
        o.tell(true, 4, 5, 5, 0, 3, 4, 0);
        for (int i = 0; i < 6; i++) {
            o.tell(true, 19, i % 3, i, 0, 0, 0, 0);
        }
        for (int i = 0; i < 3; i++) {
            o.tell(true, 20, i, 1, 0, 0, 0, 0);
        }
        o.step(40);
        int calls = 60;
        while (o.parameter(0) < 4000 && calls < 512) {
            o.tell(calls % 2 == 0, 15, 0, 400, 0, 0, 0, 0);
            o.step(Math.min(18, 4000 - o.parameter(0)));
            calls += 2;
        }
        Check.same("it went to the last tick", o.parameter(0), 4000);
        o.checksum();
        o.isSound();
        o.isTrue();
    }

    private static long bytesMade() {
        var bean = ManagementFactory.getThreadMXBean();
        return bean instanceof com.sun.management.ThreadMXBean
                ? ((com.sun.management.ThreadMXBean) bean).getThreadAllocatedBytes(Thread.currentThread().getId()) : 0;
    }

    /** How many objects and arrays hang on one, and their fields and elements. */
    private static long[] size(Object root) throws Exception {
        Set<Object> seen = Collections.newSetFromMap(new IdentityHashMap<>());
        List<Object> open = new ArrayList<>(List.of(root));
        seen.add(root);
        long cells = 0;
        while (!open.isEmpty()) {
            Object one = open.remove(open.size() - 1);
            List<Object> parts = new ArrayList<>();
            if (one.getClass().isArray()) {
                cells += Array.getLength(one);
                for (int i = 0; i < Array.getLength(one) && !one.getClass().getComponentType().isPrimitive(); i++) {
                    parts.add(Array.get(one, i));
                }
            } else {
                for (Field f : one.getClass().getDeclaredFields()) {
                    if (!Modifier.isStatic(((Member) f).getModifiers())) {
                        cells++;
                        ((AccessibleObject) f).setAccessible(true);
                        if (!f.getType().isPrimitive()) {
                            parts.add(f.get(one));
                        }
                    }
                }
            }
            for (Object part : parts) {
                if (part != null && seen.add(part)) {
                    open.add(part);
                }
            }
        }
        return new long[] {seen.size(), cells};
    }
}
