import java.io.IOException;
import java.lang.reflect.Array;
import java.lang.reflect.Field;
import java.lang.reflect.Method;
import java.lang.reflect.Modifier;
import java.nio.charset.StandardCharsets;
import java.nio.file.Files;
import java.nio.file.Path;
import java.util.ArrayList;
import java.util.Comparator;
import java.util.IdentityHashMap;
import java.util.List;
import java.util.Map;
import java.util.Set;
import java.util.TreeSet;
import java.util.concurrent.TimeUnit;
import java.util.regex.Matcher;
import java.util.regex.Pattern;
import java.util.stream.Stream;

/** What README.md says of the use of the class, and of running its tests, is what is there. Runs from the root. */
public final class ReadmeTest {
    private static final Checks C = new Checks("ReadmeTest");
    private static final Path ROOT = Path.of("").toAbsolutePath();
    private static final Pattern FENCED = Pattern.compile("```(\\w+)\\n(.*?)```", Pattern.DOTALL);
    private static final int ELEMENTS_SAID = 60_000;

    public static void main(String[] args) throws IOException, InterruptedException {
        String readme = Files.readString(ROOT.resolve("README.md"));
        runs(readme);
        calls(section(readme, "### The calls"));
        classes(section(readme, "## How it is built"));
        tests(section(readme, "## How to run its tests"));
        elements();
        C.finish();
    }

    private static void same(String what, Set<String> said, Set<String> there) {
        C.due(what + ": README.md says " + said + ", there is " + there, said.equals(there) ? 1 : 0, 1);
    }

    /** From a heading up to the next of its kind or a higher one. */
    private static String section(String readme, String heading) {
        int from = readme.indexOf(heading + "\n");
        C.due("README.md has \"" + heading + "\"", from < 0 ? 0 : 1, 1);
        Matcher next = Pattern.compile("\n##? ").matcher(readme);
        String cut = from < 0 ? "" : readme.substring(from);
        return from >= 0 && next.find(from + 1) ? readme.substring(from, next.start()) : cut;
    }

    /** The first column's names in backticks. */
    private static List<String> firstColumn(String section) {
        List<String> names = new ArrayList<>();
        for (String line : section.split("\n")) {
            if (line.startsWith("| `")) {
                Matcher name = Pattern.compile("`([^`]+)`").matcher(line.substring(0, line.indexOf(" |", 2)));
                while (name.find()) {
                    names.add(name.group(1));
                }
            }
        }
        return names;
    }

    /** The commands are run where a copy of the sources is; what is fenced as text behind them is what they print. */
    private static void runs(String readme) throws IOException, InterruptedException {
        Path place = Files.createTempDirectory("readme");
        copy(ROOT.resolve("src"), place.resolve("src"));
        int ran = 0;
        String printed = "";
        Matcher block = FENCED.matcher(readme);
        while (block.find()) {
            String text = block.group(2);
            if (block.group(1).equals("java")) {
                Files.writeString(place.resolve("Example.java"), text);
            } else if (block.group(1).equals("text")) {
                C.due("README.md says that it prints\n" + text + "but it prints\n" + printed,
                    text.equals(printed) ? 1 : 0, 1);
            } else if (text.equals(".ci/run\n")) {
                C.due(".ci/run is executable", Files.isExecutable(ROOT.resolve(".ci/run")) ? 1 : 0, 1);
            } else {
                printed = run(text, place);
                ran++;
            }
        }
        C.due("commands that README.md tells", ran, 2);
        remove(place);
    }

    private static String run(String commands, Path place) throws IOException, InterruptedException {
        Path printed = place.resolve("printed");
        Process process = new ProcessBuilder("sh", "-e", "-c", commands).directory(place.toFile())
            .redirectErrorStream(true).redirectOutput(printed.toFile()).start();
        if (!process.waitFor(5, TimeUnit.MINUTES)) {
            process.destroyForcibly();
            C.due("ends: " + commands, 0, 1);
            return "";
        }
        String text = Files.readString(printed, StandardCharsets.UTF_8);
        C.due(commands + text + "exit code", process.exitValue(), 0);
        return text;
    }

    private static void copy(Path from, Path to) throws IOException {
        List<Path> all;
        try (Stream<Path> walk = Files.walk(from)) {
            all = walk.toList();
        }
        for (Path one : all) {
            Path copied = to.resolve(from.relativize(one).toString());
            if (Files.isDirectory(one)) {
                Files.createDirectories(copied);
            } else {
                Files.copy(one, copied);
            }
        }
    }

    private static void remove(Path place) throws IOException {
        List<Path> all;
        try (Stream<Path> walk = Files.walk(place)) {
            all = walk.sorted(Comparator.reverseOrder()).toList();
        }
        for (Path one : all) {
            Files.delete(one);
        }
    }

    private static void calls(String section) {
        Set<String> said = new TreeSet<>();
        for (String call : firstColumn(section)) {
            String inside = call.substring(call.indexOf('(') + 1, call.indexOf(')'));
            said.add(call.substring(0, call.indexOf('(')) + " " + (inside.isEmpty() ? 0 : inside.split(",").length));
        }
        Set<String> there = new TreeSet<>(Set.of("SortPacks 1"));
        for (Method m : SortPacks.class.getDeclaredMethods()) {
            if (Modifier.isPublic(m.getModifiers())) {
                there.add(m.getName() + " " + m.getParameterCount());
            }
        }
        same("calls", said, there);
    }

    private static void classes(String section) {
        Set<String> there = new TreeSet<>();
        for (Class<?> inside : SortPacks.class.getDeclaredClasses()) {
            there.add(inside.getSimpleName());
        }
        same("classes inside", new TreeSet<>(firstColumn(section)), there);
    }

    private static void tests(String section) throws IOException {
        Set<String> tests = new TreeSet<>();
        Set<String> helpers = new TreeSet<>();
        try (Stream<Path> files = Files.list(ROOT.resolve("src/test/java"))) {
            for (Path file : files.toList()) {
                String name = file.getFileName().toString().replace(".java", "");
                (name.endsWith("Test") ? tests : helpers).add(name);
            }
        }
        same("tests", new TreeSet<>(firstColumn(section)), tests);
        for (String helper : helpers) {
            C.due("README.md names " + helper, section.contains("`" + helper + "`") ? 1 : 0, 1);
        }
    }

    private static void elements() {
        SortPacks x = new SortPacks(9);
        Map<Object, Boolean> seen = new IdentityHashMap<>();
        int made = elementsOf(x, seen);
        C.due("README.md says some " + ELEMENTS_SAID + " elements, there are " + made,
            Math.abs(made - ELEMENTS_SAID) <= ELEMENTS_SAID / 20 ? 1 : 0, 1);
        int objects = seen.size();
        x.octets(1, 400);
        x.feed(1, 2, 3, 4, 5);
        x.pack();
        x.pass();
        x.open();
        x.alone(0);
        seen.clear();
        C.due("elements behind calls", elementsOf(x, seen), made);
        C.due("objects and arrays behind calls", seen.size(), objects);
    }

    /** Elements of all arrays that an object holds, itself or by others. */
    private static int elementsOf(Object one, Map<Object, Boolean> seen) {
        if (one == null || seen.put(one, true) != null) {
            return 0;
        }
        Class<?> kind = one.getClass();
        int all = 0;
        if (kind.isArray()) {
            all = Array.getLength(one);
            for (int k = 0; !kind.getComponentType().isPrimitive() && k < Array.getLength(one); k++) {
                all += elementsOf(Array.get(one, k), seen);
            }
            return all;
        }
        for (Field f : kind.getDeclaredFields()) {
            if (!Modifier.isStatic(f.getModifiers()) && !f.getType().isPrimitive()) {
                f.setAccessible(true);
                all += elementsOf(valueOf(f, one), seen);
            }
        }
        return all;
    }

    private static Object valueOf(Field f, Object one) {
        try {
            return f.get(one);
        } catch (IllegalAccessException e) {
            throw new IllegalStateException(f.getName(), e);
        }
    }
}
