import java.io.File;
import java.io.IOException;
import java.lang.reflect.Method;
import java.lang.reflect.Modifier;
import java.nio.file.Files;
import java.nio.file.Path;

/** README.md tells the truth: its example runs as it says, and it names every call and every test. */
public final class ReadmeTest {
    private static final String TESTS = "src/test/java";

    public static void main(String[] args) throws IOException {
        String readme = Files.readString(Path.of("README.md"));
        String own = Files.readString(Path.of(TESTS, "ReadmeTest.java"));
        String told = between(readme, "```java\n", "```\n");
        String run = between(own, "// The example begins.\n", "        // It ends.\n").replaceAll("(?m)^ {8}", "");
        Check.holds("there is an example", told.contains("new TileStudio()"));
        Check.sameText("the example", told, run);
        example();
        names(readme);
        Check.finish();
    }

    private static String between(String text, String before, String after) {
        int begin = text.indexOf(before) + before.length();
        int end = text.indexOf(after, begin);
        return end < begin ? "" : text.substring(begin, end);
    }

    private static void example() {
        // The example begins.
        TileStudio studio = new TileStudio();
        studio.make(12, 10);                                // one layer of dots 0, all selected
        studio.fill(0, 0xFF0000FF);                         // red, green, blue, cover: a full red
        int places = studio.select(10, 2, 2, 5 | 5 << 16);  // a disc 5 wide and 5 high from 2, 2 on: 21 places
        studio.layer(1);                                    // a second layer above the first
        studio.gradient(1, 0x000000FF, 0xFFFFFFFF, 0);      // from black to white along x, where selected
        studio.mode(1, 1, 128, true);                       // multiply, half opaque, visible
        int seen = studio.view(0, 4, 4);                    // both layers blended: 0xAE0000FF
        boolean back = studio.undo();                       // true: the mode is normal again
        int whiter = studio.view(0, 4, 4);                  // 0x5D5D5DFF, the upper layer's own dot
        int few = studio.save(3);                           // 3 pages: too few, there is no file yet
        int pages = studio.save(-1);                        // 6 pages: five tiles are not empty; and the closing one
        studio.open();                                      // the picture of the file, without steps
        // It ends.
        Check.same("places", places, 21);
        Check.sameDot("seen", seen, 0xAE0000FF);
        Check.holds("back", back);
        Check.sameDot("whiter", whiter, 0x5D5D5DFF);
        Check.same("few", few, 3);
        Check.same("pages", pages, 6);
        Check.same("steps after open", studio.count(1) + studio.count(2), 0);
    }

    private static void names(String readme) {
        for (Method method : TileStudio.class.getDeclaredMethods()) {
            if (Modifier.isPublic(method.getModifiers())) {
                Check.holds("README names the call " + method.getName(), readme.contains("`" + method.getName() + "("));
            }
        }
        String[] files = new File(TESTS).list();
        Check.holds("there are tests", files != null && files.length > 0);
        for (String file : files == null ? new String[0] : files) {
            Check.holds("README names " + file, readme.contains("`" + file.replace(".java", "`")));
        }
    }
}
