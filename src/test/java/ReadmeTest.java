import java.io.IOException;
import java.nio.file.DirectoryStream;
import java.nio.file.Files;
import java.nio.file.Path;

/** What README.md says of the class and of its tests, as they stand. */
public final class ReadmeTest {
    private static final String WRITTEN = "<e v=\"1\"><b><p><r h=\"1\"/><r h=\"1\"/></p><t id=\"1\">a</t></b></e>";
    private static final String FED = "<e v=\"1\"><h m=\"1\" k=\"5\"/><b><a n=\"3\" o=\"1\"><i>-7</i></a></b></e>";

    private final Checks checks = new Checks();
    private final String readme;

    private ReadmeTest() throws IOException {
        readme = Files.readString(Path.of("README.md"));
    }

    public static void main(String[] args) throws IOException {
        ReadmeTest test = new ReadmeTest();
        test.checks.sentence("README.md says how to use the class");
        test.writing();
        test.reading();
        test.checks.sentence("README.md says .. how to run its tests, as they then stand");
        test.tests();
        test.checks.end();
    }

    private void writing() {
        Pages pages = new Pages();
        int pair = pages.make(0, 0);
        int text = pages.make(2, 0);
        pages.type(text, 'a');
        pages.link(pair, 0, text);
        pages.link(pair, 1, text);
        int length = pages.encode(pair);
        says("int length = pages.encode(pair);", "" + length);
        checks.due("the page", pages.page(), WRITTEN);
        checks.due("the page stands there", readme.contains("// " + WRITTEN), true);
        int copy = pages.decode();
        says("int copy = pages.decode();", "" + copy);
        checks.due("the copy's text", pages.value(copy, 1), 3);
        says("boolean same = pages.alike(pair, copy);", "" + pages.alike(pair, copy));
    }

    private void reading() {
        checks.due("the page stands there", readme.contains("\"" + FED.replace("\"", "\\\"") + "\""), true);
        Pages pages = Pages.withPage(FED);
        checks.due("the fault", pages.decode(), GraphPages.MUST);
        says("int fault = pages.decode();", "GraphPages.MUST");
        checks.due("objects", pages.objects(), 0);
        pages.understand(5, true);
        int root = pages.decode();
        says("int root = pages.decode();", "" + root);
        checks.due("the graph", pages.graph(), "A[- -7 -]");
        says("int held = pages.holds(root, 1);", "" + pages.holds(root, 1));
        says("int number = pages.value(root, 1);", "" + pages.value(root, 1));
    }

    /** The example has that row, and tells that answer behind it. */
    private void says(String row, String answer) {
        int start = readme.indexOf(row);
        String told = start < 0 ? "" : readme.substring(start + row.length()).lines().findFirst().orElse("").strip();
        checks.due(row + " is told with its answer: " + told, told.matches("// \\Q" + answer + "\\E\\b.*"), true);
    }

    private void tests() throws IOException {
        try (DirectoryStream<Path> files = Files.newDirectoryStream(Path.of("src/test/java"))) {
            for (Path file : files) {
                String name = file.getFileName().toString().replace(".java", "");
                checks.due(name + " is named", readme.contains("`" + name + "`"), true);
            }
        }
        checks.due(".ci/run is named", readme.contains("\n.ci/run\n") && Files.isExecutable(Path.of(".ci/run")), true);
    }
}
