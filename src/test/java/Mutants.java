import java.io.IOException;
import java.io.OutputStream;
import java.io.PrintStream;
import java.net.URL;
import java.net.URLClassLoader;
import java.nio.file.Files;
import java.nio.file.Path;
import java.util.ArrayList;
import java.util.List;
import java.util.Set;
import java.util.TreeSet;
import java.util.regex.Matcher;
import java.util.regex.Pattern;
import javax.tools.JavaCompiler;
import javax.tools.ToolProvider;

/**
 * Shows that the tests of sentences have force: src/test/mutants.txt tells, for each sentence,
 * a fault to put into the class, by which the test of just that sentence must go wrong. No part
 * of .ci/run, as a fault is told by the class's text, which may change; run it by .ci/mutants.
 */
final class Mutants {
    private static final Path SOURCE = Path.of("src", "main", "java", "LineFinder.java");
    private static final Path FAULTS = Path.of("src", "test", "mutants.txt");
    private static final String[] TESTS = {
        "EdgesOfRunsTest", "EdgesOfSuspectsTest", "EdgesOfCausesTest", "EdgesOfChangesTest",
        "EdgesOfRefusalsTest", "EdgesOfPromisesTest",
    };

    /** What the tests say of one class. */
    record Outcome(Set<String> tried, Set<String> broken) {
    }

    static final class Fault {
        final String title;
        final StringBuilder before = new StringBuilder();
        final StringBuilder after = new StringBuilder();

        Fault(String title) {
            this.title = title;
        }

        /** Blanks and line ends of the text count as one blank. */
        Pattern pattern() {
            StringBuilder regex = new StringBuilder();
            for (String word : before.toString().trim().split("\\s+")) {
                regex.append(regex.length() == 0 ? "" : "\\s+").append(Pattern.quote(word));
            }
            return Pattern.compile(regex.toString());
        }

        String into(String source) {
            Matcher found = pattern().matcher(source);
            if (!found.find()) {
                throw new IllegalStateException("no such text: " + before);
            }
            String result = source.substring(0, found.start()) + after + source.substring(found.end());
            if (found.find()) {
                throw new IllegalStateException("twice in the class: " + before);
            }
            return result;
        }
    }

    private final Path tests;
    private final Path work;
    private final PrintStream told = System.out;

    private Mutants(Path tests, Path work) {
        this.tests = tests;
        this.work = work;
    }

    public static void main(String[] args) throws Exception {
        boolean good = new Mutants(Path.of(args[0]), Path.of(args[1])).go();
        System.exit(good ? 0 : 1);
    }

    private boolean go() throws Exception {
        String source = Files.readString(SOURCE);
        Set<String> untried = new TreeSet<>(outcomeOf(source).tried());
        int missed = 0;
        List<Fault> faults = faults();
        for (Fault fault : faults) {
            Set<String> broken = outcomeOf(fault.into(source)).broken();
            untried.remove(fault.title);
            if (!broken.contains(fault.title)) {
                missed++;
                told.println("MISSED: " + fault.title + "\n  by " + fault.after.toString().trim() + "\n  but broken: " + broken);
            }
        }
        for (String title : untried) {
            told.println("NO FAULT: " + title);
        }
        told.println(faults.size() + " faults, " + missed + " missed, " + untried.size() + " sentences without a fault");
        return missed == 0 && untried.isEmpty();
    }

    private static List<Fault> faults() throws IOException {
        List<Fault> faults = new ArrayList<>();
        for (String line : Files.readAllLines(FAULTS)) {
            if (line.startsWith("= ")) {
                faults.add(new Fault(line.substring(2)));
            } else if (line.startsWith("- ")) {
                faults.get(faults.size() - 1).before.append(line.substring(2)).append('\n');
            } else if (line.startsWith("+ ")) {
                faults.get(faults.size() - 1).after.append(line.substring(2)).append('\n');
            }
        }
        return faults;
    }

    private Outcome outcomeOf(String source) throws Exception {
        Path file = work.resolve("LineFinder.java");
        Files.createDirectories(work);
        Files.writeString(file, source);
        JavaCompiler compiler = ToolProvider.getSystemJavaCompiler();
        if (compiler.run(null, null, null, "-d", work.toString(), file.toString()) != 0) {
            throw new IllegalStateException("does not compile");
        }
        URL[] path = {work.toUri().toURL(), tests.toUri().toURL()};
        Outcome outcome = new Outcome(new TreeSet<>(), new TreeSet<>());
        System.setOut(new PrintStream(OutputStream.nullOutputStream()));
        try (URLClassLoader loader = new URLClassLoader(path, ClassLoader.getPlatformClassLoader())) {
            for (String test : TESTS) {
                run(loader, test, outcome);
            }
        } finally {
            System.setOut(told);
        }
        return outcome;
    }

    @SuppressWarnings("unchecked")
    private static void run(ClassLoader loader, String test, Outcome outcome) throws Exception {
        Class<?> sentences = loader.loadClass("Sentences");
        var maker = sentences.getDeclaredConstructor(String.class);
        maker.setAccessible(true);
        Object all = maker.newInstance(test);
        var method = loader.loadClass(test).getDeclaredMethod("all", sentences);
        method.setAccessible(true);
        method.invoke(null, all);
        var tried = sentences.getDeclaredMethod("tried");
        tried.setAccessible(true);
        outcome.tried().addAll((Set<String>) tried.invoke(all));
        var broken = sentences.getDeclaredMethod("broken");
        broken.setAccessible(true);
        outcome.broken().addAll((List<String>) broken.invoke(all));
    }
}
