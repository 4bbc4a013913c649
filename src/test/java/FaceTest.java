import java.io.IOException;
import java.lang.reflect.Field;
import java.lang.reflect.Method;
import java.lang.reflect.Modifier;
import java.nio.file.Files;
import java.nio.file.Path;
import java.util.ArrayList;
import java.util.List;
import java.util.Set;
import java.util.TreeSet;
import java.util.regex.Matcher;
import java.util.regex.Pattern;

/** The public face, and such rules of the language as can be seen by a machine. */
public final class FaceTest {
    private static final String FACE = "int sign(int) boolean end(int) int riders() int rule() int rider(int,int)"
        + " int hard(int,int) int set(int,int) int sheet(int,int,int,int) int rota() int give(int,int) int ill(int)"
        + " int nights(int) int year() int undo() int gaps() int first(int) int later(int) int vigil(int) int trade()"
        + " int easiest() int fewest() int bare() int rotas() int mended(int) int takes() int missed(int)"
        + " int paid(int) int fairest() int away() int able(int) int spent(int) int shared(int,int) int thin()"
        + " int changes() int smoothest() int meets(int,int,int) int found(int,int,int) int forget() int fits()"
        + " int sure(int,int) int ask() int held(int) int keystone(int) int rests(int,int) int law()"
        + " int years(int,int) boolean keep(int) boolean again(int) int count(int) long row(int)";
    private static final String[] FORBIDDEN = {"\\btry\\b", "\\bcatch\\b", "\\bfinally\\b", "->", "::", "\\bassert\\b",
        "\\bsynchronized\\b", "\\bvar\\b", "\\bprotected\\b", "\\bnative\\b", "Exact\\b", "\\bstatic \\{",
        "_VALUE\\b", "\\bHashMap\\b", "\\bRandom\\b", "\\bSystem\\.(?!arraycopy)", "[^\\x00-\\x7f]"};
    private static int wrong = 0;

    private static void due(boolean is, String what) {
        if (!is) {
            wrong++;
            System.out.println(what);
        }
    }

    public static void main(String[] args) throws IOException, ReflectiveOperationException {
        face();
        inside();
        source(Files.readString(Path.of("src/main/java/RockingHorse.java")));
        if (wrong != 0) {
            System.exit(1);
        }
        System.out.println("the face is as due");
    }

    private static void face() throws ReflectiveOperationException {
        Set<String> want = new TreeSet<>(List.of(FACE.split("(?<=\\)) ")));
        Set<String> got = new TreeSet<>();
        for (Method m : RockingHorse.class.getDeclaredMethods()) {
            if (!Modifier.isPrivate(m.getModifiers())) {
                due(Modifier.isPublic(m.getModifiers()), m + " is neither public nor private");
                got.add(signature(m));
            }
        }
        due(want.equals(got), "the methods are " + got + ", due are " + want);
        due(Modifier.isFinal(RockingHorse.class.getModifiers()), "the class is not final");
        due(RockingHorse.class.getDeclaredConstructors().length == 1, "another constructor");
        due(RockingHorse.class.getConstructor() != null, "no public constructor");
        for (Field f : RockingHorse.class.getDeclaredFields()) {
            due(f.getName().equals("NONE") || Modifier.isPrivate(f.getModifiers()), f + " is not private");
        }
    }

    private static String signature(Method m) {
        StringBuilder b = new StringBuilder(m.getReturnType() + " " + m.getName() + "(");
        for (int i = 0; i < m.getParameterCount(); i++) {
            b.append(i > 0 ? "," : "").append(m.getParameterTypes()[i]);
        }
        return b.append(")").toString();
    }

    private static void inside() {
        Set<String> faces = new TreeSet<>();
        List<Class<?>> classes = new ArrayList<>(List.of(RockingHorse.class.getDeclaredClasses()));
        for (Method m : RockingHorse.class.getMethods()) {
            if (m.getDeclaringClass() == RockingHorse.class) {
                faces.add(m.getName());
            }
        }
        due(classes.size() <= 11, "more than twelve classes");
        for (Class<?> c : classes) {
            due(Modifier.isStatic(c.getModifiers()), c + " is not static");
        }
        classes.add(RockingHorse.class);
        for (Class<?> c : classes) {
            int fields = 0;
            for (Field f : c.getDeclaredFields()) {
                boolean isStatic = Modifier.isStatic(f.getModifiers());
                due(!isStatic || Modifier.isFinal(f.getModifiers()), f + " is static and not final");
                fields += isStatic ? 0 : 1;
            }
            due(fields <= 20, c + " has " + fields + " fields");
            for (Method m : c.getDeclaredMethods()) {
                due(m.getParameterCount() <= 7, m + " takes more than seven");
                due(!Modifier.isPrivate(m.getModifiers()) || !faces.contains(m.getName()), m + " bears a face's name");
            }
        }
    }

    private static void source(String text) {
        String bare = text.replaceAll("(?s)/\\*.*?\\*/", "").replaceAll("//[^\n]*", "");
        for (String f : FORBIDDEN) {
            Matcher m = Pattern.compile(f).matcher(bare);
            due(!m.find(), "the program has " + f);
        }
        Matcher imports = Pattern.compile("(?m)^import (.*);$").matcher(bare);
        while (imports.find()) {
            String name = imports.group(1);
            due(name.equals("java.util.Arrays") || name.equals("java.util.NoSuchElementException"), "import " + name);
        }
        int from = 0;
        String[] lines = text.split("\n");
        for (int i = 0; i < lines.length; i++) {
            if (lines[i].matches("( {4}| {8})(public|private) .*\\) (throws \\w+ )?\\{")) {
                from = i;
            }
            if (lines[i].matches("( {4}| {8})\\}")) {
                due(i - from <= 60, "a method of " + (i - from) + " lines: " + lines[from]);
            }
        }
    }
}
