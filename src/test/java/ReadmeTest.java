import java.io.IOException;
import java.lang.reflect.InvocationTargetException;
import java.lang.reflect.Method;
import java.nio.file.Files;
import java.nio.file.Path;
import java.util.ArrayList;
import java.util.List;
import java.util.Set;
import java.util.TreeSet;
import java.util.regex.Matcher;
import java.util.regex.Pattern;

/** The calls of README.md's example answer as README.md says. */
public final class ReadmeTest {
    private static final Path PAGE = Path.of("README.md");
    private static final Path SELF = Path.of("src/test/java/ReadmeTest.java");
    private static final Pattern BLOCK = Pattern.compile("(?s)\n```java\n(.*?)\n```\n");
    private static final Pattern CALL = Pattern.compile("(horse\\.(\\w+)\\((.*)\\)|tell\\(horse, \"(.*)\"\\));"
        + " +// (-?\\d+|true|false|throws NoSuchElementException)(?:: .*)?");
    private static final String NEW = "RockingHorse horse = new RockingHorse();";
    private static final int MOST_CALLS = 512;

    private final Set<String> called = new TreeSet<>();
    private RockingHorse horse;
    private int calls;
    private int callsOfHorse;
    private int wrong;

    public static void main(String[] args) throws IOException, IllegalAccessException {
        new ReadmeTest().run(Files.readString(PAGE).replace("\r\n", "\n"));
    }

    private void run(String page) throws IOException, IllegalAccessException {
        List<String> blocks = new ArrayList<>();
        Matcher found = BLOCK.matcher(page);
        while (found.find()) {
            blocks.add(found.group(1));
        }
        due(count(page, "```java") == blocks.size(), "a block of calls has no end");
        int helps = 0;
        for (String block : blocks) {
            if (block.startsWith("static ")) {
                helps++;
                isOurs(block);
            } else {
                makeCalls(block);
            }
        }
        due(helps == 1, "there are " + helps + " helps, due is 1");
        showsWhatIsDue();
        System.out.println(calls + " calls of README.md, " + wrong + " not as due");
        if (wrong != 0) {
            System.exit(1);
        }
    }

    private void due(boolean is, String what) {
        if (!is) {
            wrong++;
            System.out.println("README.md: " + what);
        }
    }

    private static int count(String text, String part) {
        return text.split(Pattern.quote(part), -1).length - 1;
    }

    /** The help of the page is the one that is used here, sign for sign, but for how far it is put in. */
    private void isOurs(String block) throws IOException {
        String own = Files.readString(SELF).replace("\r\n", "\n");
        due(own.contains("    " + block.replace("\n", "\n    ") + "\n"), "its help is not the one of " + SELF);
    }

    private void makeCalls(String block) throws IllegalAccessException {
        for (String line : block.split("\n")) {
            Matcher call = CALL.matcher(line);
            if (line.equals(NEW)) {
                horse = new RockingHorse();
                callsOfHorse = 0;
            } else if (horse == null || !call.matches()) {
                due(false, "not understood: " + line);
            } else {
                String got = call.group(4) != null ? Boolean.toString(tell(horse, call.group(4))) : answer(call);
                calls++;
                callsOfHorse += call.group(4) != null ? 2 + (call.group(4).length() + 3) / 4 : 1;
                due(got.equals(call.group(5)), "the answer is " + got + ", not as in: " + line);
                due(callsOfHorse <= MOST_CALLS, "more calls than the document tells of: " + line);
            }
        }
    }

    private String answer(Matcher call) throws IllegalAccessException {
        String[] told = call.group(3).isEmpty() ? new String[0] : call.group(3).split(", ");
        Object[] numbers = new Object[told.length];
        for (int i = 0; i < told.length; i++) {
            numbers[i] = Integer.decode(told[i]);
        }
        for (Method m : RockingHorse.class.getMethods()) {
            if (m.getName().equals(call.group(2)) && m.getParameterCount() == told.length) {
                called.add(m.getName());
                return answer(m, numbers);
            }
        }
        return "no such call";
    }

    private String answer(Method m, Object[] numbers) throws IllegalAccessException {
        try {
            return String.valueOf(m.invoke(horse, numbers));
        } catch (InvocationTargetException e) {
            return "throws " + e.getCause().getClass().getSimpleName();
        }
    }

    /** The example shows how a run begins, how texts are told and taken, the ROW, and refusals. */
    private void showsWhatIsDue() {
        for (String name : List.of("sign", "end", "riders", "count", "row", "set", "rider")) {
            due(called.contains(name), "the example does not call " + name);
        }
        due(calls >= 20, "the example has only " + calls + " calls");
    }

    static boolean tell(RockingHorse horse, String text) {
        horse.end(0);
        for (int p = 0; p < text.length(); p += 4) {
            int v = 0;
            for (int k = p; k < p + 4; k++) {
                v = v << 8 | (k < text.length() ? text.charAt(k) : 0);
            }
            horse.sign(v);
        }
        return horse.end(text.length());
    }
}
