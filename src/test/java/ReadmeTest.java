import java.io.ByteArrayOutputStream;
import java.io.IOException;
import java.io.PrintStream;
import java.nio.charset.StandardCharsets;
import java.nio.file.Files;
import java.nio.file.Path;

/** README.md's example is the one that is compiled here, it prints what README.md says, and no call is left out. */
public final class ReadmeTest {
    public static void main(String[] args) throws IOException {
        Check check = new Check();
        String readme = Files.readString(Path.of("README.md"));
        String example = Files.readString(Path.of("src", "test", "java", "Example.java"));
        check.same("the example", block(readme, "java"), example);
        check.same("what it prints", printed(), block(readme, "text"));
        for (java.lang.reflect.Method m : RecordLake.class.getMethods()) {
            if (m.getDeclaringClass() == RecordLake.class) {
                check.yes(m.getName() + " is told of", readme.contains("`" + m.getName() + "("));
            }
        }
        for (java.lang.reflect.Field f : RecordLake.class.getFields()) {
            check.yes(f.getName() + " is told of", readme.contains("`" + f.getName() + "`"));
        }
        check.finish("ReadmeTest");
    }

    private static String block(String readme, String language) {
        String mark = "\n```" + language + "\n";
        int from = readme.indexOf(mark) + mark.length();
        return readme.substring(from, readme.indexOf("\n```\n", from) + 1);
    }

    private static String printed() {
        PrintStream before = System.out;
        ByteArrayOutputStream all = new ByteArrayOutputStream();
        System.setOut(new PrintStream(all, true, StandardCharsets.ISO_8859_1));
        Example.main(new String[0]);
        System.setOut(before);
        return all.toString(StandardCharsets.ISO_8859_1).replace(System.lineSeparator(), "\n");
    }
}
