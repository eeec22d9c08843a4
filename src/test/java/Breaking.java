import java.io.ByteArrayOutputStream;
import java.io.IOException;
import java.io.InputStream;
import java.io.OutputStream;
import java.io.PrintStream;
import java.io.StringWriter;
import java.lang.reflect.Field;
import java.lang.reflect.Method;
import java.net.URI;
import java.nio.file.Files;
import java.nio.file.Path;
import java.util.ArrayList;
import java.util.HashMap;
import java.util.List;
import java.util.Map;
import java.util.concurrent.ExecutorService;
import java.util.concurrent.Executors;
import java.util.concurrent.Future;
import java.util.regex.Matcher;
import java.util.regex.Pattern;
import javax.tools.FileObject;
import javax.tools.ForwardingJavaFileManager;
import javax.tools.JavaCompiler;
import javax.tools.JavaFileManager;
import javax.tools.JavaFileObject;
import javax.tools.SimpleJavaFileObject;
import javax.tools.StandardJavaFileManager;
import javax.tools.ToolProvider;

/**
 * Breaks the class in one place at a time and tells which of the broken classes no test finds. It is run by hand
 * (README.md): it takes minutes, and what it tells must be read, since guards that no run reaches are found by none.
 */
public final class Breaking {
    private static final Path SOURCE = Path.of("src/main/java/StonesOver.java");
    private static final String[] TESTS = {"LaneBoundsTest", "LawBoundsTest", "ThoughtBoundsTest", "MatchBoundsTest", "MarksBoundsTest",
        "DeedsBoundsTest", "ShelvesBoundsTest", "ActsBoundsTest", "PromisesTest", "MadeUpTest", "AnswersTest"};
    private static final int LONGEST = 20000;

    /** What is looked for in a line, and what comes in its place. */
    private static final String[][] PLACES = {
        {"(?<![<>=!])<=", "<"}, {"(?<![<>=!-])<(?![<=])", "<="}, {"(?<![<>=!])>=", ">"}, {"(?<![<>=!-])>(?![>=])", ">="},
        {"==", "!="}, {"!=", "=="}, {"&&", "||"}, {"\\|\\|", "&&"}, {" \\+ ", " - "}, {" - ", " + "}, {" \\* ", " + "}, {" / ", " * "},
        {" % ", " / "}, {"\\+\\+", "--"}, {"\\+= ", "-= "}, {"\\*= ", "+= "}, {"\\btrue\\b", "false"}, {"\\bfalse\\b", "true"},
        {"\\bBAD\\b", "NOT"}, {"\\bNOT\\b", "BAD"}, {"\\bFULL\\b", "BAD"}, {"\\bSTATE\\b", "BAD"}, {"\\bVOID\\b", "BAD"},
        {"\\bNOTHING_THERE\\b", "OTHER_KIND"}, {"\\bOTHER_KIND\\b", "NOTHING_THERE"}, {"\\bNO_SUCH_PLACE\\b", "BAD"},
        {"\\bSIZE_BELOW_NOUGHT\\b", "BAD"}, {"Long\\.MIN_VALUE", "BAD"}, {"Math\\.max", "Math.min"}, {"Math\\.min", "Math.max"},
        {">>>", ">>"}, {"!(?=[a-zA-Z])", ""}, {"&& [^&|?)]+(?=[&)|])", ""}, {"\\|\\| [^&|?)]+(?=[&)|])", ""}};
    private static final Pattern NUMBER = Pattern.compile("(?<![A-Za-z_0-9.'])\\d+(?![A-Za-z_0-9'])");
    private static final Pattern NO_STATEMENT = Pattern.compile("(return|private|static|public|case|break|int|long|boolean)\\b.*");

    private record Broken(int line, String was, String now, String source) {
    }

    private Breaking() {
    }

    public static void main(String[] args) throws Exception {
        String[] tests = args.length > 0 ? args : TESTS;
        PrintStream out = System.out;
        // What the tests print of each broken class is no matter here.
        System.setOut(new PrintStream(OutputStream.nullOutputStream()));
        String source = Files.readString(SOURCE);
        if (isFound(compiled(source), tests)) {
            out.println("the tests fail on the class as it is");
            System.exit(1);
        }
        tell(out, tests, brokenOnes(source));
        System.exit(0);
    }

    private static void tell(PrintStream out, String[] tests, List<Broken> all) throws Exception {
        ExecutorService pool = Executors.newFixedThreadPool(Runtime.getRuntime().availableProcessors());
        List<Future<Boolean>> found = new ArrayList<>();
        for (Broken each : all) {
            found.add(pool.submit(() -> {
                Map<String, byte[]> classes = compiled(each.source);
                return classes.isEmpty() || isFoundInTime(classes, tests);
            }));
        }
        int alive = 0;
        for (int i = 0; i < all.size(); i++) {
            if (!found.get(i).get()) {
                Broken each = all.get(i);
                out.println(each.line + ": " + each.was + "\n    " + each.now);
                alive++;
            }
        }
        out.println(all.size() + " broken classes (those that don't compile among them), " + alive + " found by no test");
    }

    private static List<Broken> brokenOnes(String source) {
        List<Broken> all = new ArrayList<>();
        String[] lines = source.split("\n", -1);
        for (int i = 0; i < lines.length; i++) {
            String told = lines[i].trim();
            if (!told.isEmpty() && !told.startsWith("*") && !told.startsWith("/")) {
                for (String[] place : PLACES) {
                    breakPlaces(all, lines, i, Pattern.compile(place[0]), place[1]);
                }
                breakNumbers(all, lines, i);
                if (told.endsWith(";") && !NO_STATEMENT.matcher(told).matches()) {
                    add(all, lines, i, "");
                }
            }
        }
        return all;
    }

    private static void breakPlaces(List<Broken> all, String[] lines, int i, Pattern place, String by) {
        Matcher matcher = place.matcher(lines[i]);
        while (matcher.find()) {
            add(all, lines, i, lines[i].substring(0, matcher.start()) + by + lines[i].substring(matcher.end()));
        }
    }

    private static void breakNumbers(List<Broken> all, String[] lines, int i) {
        Matcher matcher = NUMBER.matcher(lines[i]);
        while (matcher.find()) {
            for (int by = -1; by <= 1; by += 2) {
                long number = Long.parseLong(matcher.group()) + by;
                add(all, lines, i, lines[i].substring(0, matcher.start()) + "(" + number + ")" + lines[i].substring(matcher.end()));
            }
        }
    }

    private static void add(List<Broken> all, String[] lines, int i, String now) {
        String[] broken = lines.clone();
        broken[i] = now;
        all.add(new Broken(i + 1, lines[i].trim(), now.trim(), String.join("\n", broken)));
    }

    /** A broken class that does not end is found. */
    private static boolean isFoundInTime(Map<String, byte[]> classes, String[] tests) throws InterruptedException {
        boolean[] found = {true};
        Thread thread = new Thread(() -> found[0] = isFound(classes, tests));
        thread.setDaemon(true);
        thread.start();
        thread.join(LONGEST);
        return found[0];
    }

    private static boolean isFound(Map<String, byte[]> classes, String[] tests) {
        try {
            for (String test : tests) {
                Loader loader = new Loader(classes);
                Method ask = loader.loadClass(test).getDeclaredMethod("ask");
                ask.setAccessible(true);
                ask.invoke(null);
                Field wrong = loader.loadClass("Due").getDeclaredField("wrong");
                wrong.setAccessible(true);
                if (wrong.getInt(null) > 0) {
                    return true;
                }
            }
            return false;
        } catch (ReflectiveOperationException e) {
            // The broken class threw: that is found, too.
            return true;
        }
    }

    /** The classes of a source by their names; none, if it does not compile. */
    private static Map<String, byte[]> compiled(String source) throws IOException {
        JavaCompiler compiler = ToolProvider.getSystemJavaCompiler();
        Map<String, InMemory> made = new HashMap<>();
        boolean isMade;
        try (StandardJavaFileManager files = compiler.getStandardFileManager(said -> { }, null, null)) {
            JavaFileManager inMemory = new ForwardingJavaFileManager<JavaFileManager>(files) {
                @Override
                public JavaFileObject getJavaFileForOutput(Location at, String name, JavaFileObject.Kind kind, FileObject near) {
                    made.put(name, new InMemory(name, ""));
                    return made.get(name);
                }
            };
            isMade = compiler.getTask(new StringWriter(), inMemory, said -> { }, List.of("-proc:none"), null,
                    List.of(new InMemory("StonesOver", source))).call();
        }
        Map<String, byte[]> classes = new HashMap<>();
        if (isMade) {
            made.forEach((name, each) -> classes.put(name, each.bytes.toByteArray()));
        }
        return classes;
    }

    /** A source, or a class that is made of one. */
    private static final class InMemory extends SimpleJavaFileObject {
        private final String source;
        private final ByteArrayOutputStream bytes = new ByteArrayOutputStream();

        InMemory(String name, String source) {
            super(URI.create("memory:///" + name.replace('$', '_') + (source.isEmpty() ? ".class" : ".java")),
                    source.isEmpty() ? Kind.CLASS : Kind.SOURCE);
            this.source = source;
        }

        @Override
        public CharSequence getCharContent(boolean ignoreErrors) {
            return source;
        }

        @Override
        public OutputStream openOutputStream() {
            return bytes;
        }
    }

    /** Loads the broken class, and the tests anew beside it, so that each has its own static counts. */
    private static final class Loader extends ClassLoader {
        private final Map<String, byte[]> classes;

        Loader(Map<String, byte[]> classes) {
            super(ClassLoader.getPlatformClassLoader());
            this.classes = classes;
        }

        @Override
        protected Class<?> findClass(String name) throws ClassNotFoundException {
            byte[] bytes = name.startsWith("StonesOver") ? classes.get(name) : ofTest(name);
            if (bytes == null) {
                throw new ClassNotFoundException(name);
            }
            return defineClass(name, bytes, 0, bytes.length);
        }

        private static byte[] ofTest(String name) throws ClassNotFoundException {
            try (InputStream in = Breaking.class.getResourceAsStream("/" + name + ".class")) {
                return in == null ? null : in.readAllBytes();
            } catch (IOException e) {
                throw new ClassNotFoundException(name, e);
            }
        }
    }
}
