import java.io.IOException;
import java.nio.file.Files;
import java.nio.file.Path;

/** The lines of README.md on how to use the class: they stand there, and each answers what is written behind it. */
public final class ReadmeTest {
    private static String readme = "";

    private static void line(String written, Object want, Due.Call call) {
        Due.due("README.md has " + written, true, () -> readme.contains("\n" + written));
        Due.due(written, want, call);
    }

    private static void example() {
        ShapedItems x = new ShapedItems();
        line("x.type('[' | '*' << 8 | 'i' << 16 | ']' << 24);", true, () -> x.type('[' | '*' << 8 | 'i' << 16 | ']' << 24));
        line("x.rule(0);", 1, () -> x.rule(0));
        line("x.feed(0x020182, 3);", 3, () -> x.feed(0x020182, 3));
        line("x.items();", 3, () -> x.items());
        line("x.number(2);", 2, () -> x.number(2));
        line("x.check(0);", 1, () -> x.check(0));
        line("x.matches(0);", true, () -> x.matches(0));
        line("x.matchesAt(0, 1);", false, () -> x.matchesAt(0, 1));
        line("x.check(1);", Due.MISSING, () -> x.check(1));
        line("x.matchesAt(0, 3);", Due.INDEX, () -> x.matchesAt(0, 3));
        line("x.wipe();", 3, () -> x.wipe());
        line("x.matches(0);", Due.ARGUMENT, () -> x.matches(0));
    }

    /** The helper that README.md shows for texts of more than four characters. */
    private static void typeAll(ShapedItems x, String text) {
        for (int i = 0; i < text.length(); i++) {
            x.type(text.charAt(i));
        }
    }

    private static void longerTexts() {
        ShapedItems x = new ShapedItems();
        typeAll(x, "{?\"name\":t,*y:y}");
        Due.due("README.md has the loop", true, () -> readme.contains("x.type(text.charAt(i));"));
        Due.due("rule(1)", 1, () -> x.rule(1));
        Due.due("check(1)", 1, () -> x.check(1));
    }

    public static void main(String[] args) throws IOException {
        readme = Files.readString(Path.of("README.md"));
        example();
        longerTexts();
        Due.end();
    }
}
