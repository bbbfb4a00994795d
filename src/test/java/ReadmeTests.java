import java.io.IOException;
import java.lang.reflect.Method;
import java.lang.reflect.Modifier;
import java.nio.charset.StandardCharsets;
import java.nio.file.Files;
import java.nio.file.Path;

/** README's program prints what README says, and README names every call of the face. */
public final class ReadmeTests {
    private static int wrong = 0;

    public static void main(String[] args) throws IOException, InterruptedException {
        String readme = Files.readString(Path.of("README.md"));
        String program = blockOf(readme, "java");
        String told = blockOf(readme, "text");
        check(!program.isEmpty(), "there is no program");
        check(!told.isEmpty(), "there is nothing that it prints");
        String printed = run(program);
        check(printed.equals(told), "the program prints\n" + printed + "and README says\n" + told);
        int calls = 0;
        for (Method method : WorstPlaces.class.getDeclaredMethods()) {
            if (Modifier.isPublic(method.getModifiers())) {
                calls++;
                check(readme.contains("`" + method.getName() + "`"), "no word of " + method.getName());
            }
        }
        check(calls == 24, "the face has " + calls + " methods");
        check(readme.contains(".ci/run"), "no word of how to run the tests");
        System.out.println(wrong == 0 ? "README holds" : wrong + " faults of README");
        System.exit(wrong == 0 ? 0 : 1);
    }

    private static void check(boolean holds, String otherwise) {
        if (!holds) {
            wrong++;
            System.out.println(otherwise);
        }
    }

    /** What stands between the first fence of this language and the next fence. */
    private static String blockOf(String readme, String language) {
        String fence = "\n```" + language + "\n";
        int from = readme.indexOf(fence);
        int to = from < 0 ? -1 : readme.indexOf("\n```\n", from + 1);
        return to < 0 ? "" : readme.substring(from + fence.length(), to + 1);
    }

    private static String run(String program) throws IOException, InterruptedException {
        Path folder = Files.createTempDirectory("readme");
        Path source = folder.resolve("Example.java");
        Files.writeString(source, program);
        String java = Path.of(System.getProperty("java.home"), "bin", "java").toString();
        String classes = System.getProperty("java.class.path");
        Process process = new ProcessBuilder(java, "-cp", classes, source.toString()).redirectErrorStream(true).start();
        String printed = new String(process.getInputStream().readAllBytes(), StandardCharsets.UTF_8);
        check(process.waitFor() == 0, "the program fails");
        Files.delete(source);
        Files.delete(folder);
        return printed;
    }
}
