import java.io.IOException;
import java.nio.file.DirectoryStream;
import java.nio.file.Files;
import java.nio.file.Path;
import java.util.BitSet;
import java.util.LinkedHashMap;
import java.util.Map;
import java.util.regex.Matcher;
import java.util.regex.Pattern;

/** Each place of the document that names a boundary lies within the words of an {@link Edge}. */
public final class DocTest {
    private static final Pattern EDGE =
        Pattern.compile("@Edge\\(at = \"([^\"]*)\", says = \"((?:[^\"\\\\]|\\\\.)*)\"\\)\\s+private static void (\\w+)\\(");
    private static final Pattern BOUNDARY = Pattern.compile(
        "BAD|FULL|NONE|STATE|-\\d+|\\d+ to \\d+|\\d+ TICKS|at most|at least|up to|at first|missing|no such|not so many|another what"
        + "|\\bnone\\b|\\bnothing\\b|of several|\\bfirst\\b|latest|wrap|more than|fewer|or less|or more|or earlier|too early"
        + "|(?:above|below) -?\\d|n't\\b|MAY not|CAN'T|cut towards|lowest|likewise|modulo");

    private final Doc doc = new Doc();
    private final Map<String, BitSet> within = new LinkedHashMap<>();

    public static void main(String[] args) throws IOException {
        if (!Doc.isThere()) {
            System.out.println("there is no ../shared/DOC.md to look into");
            return;
        }
        DocTest test = new DocTest();
        try (DirectoryStream<Path> sources = Files.newDirectoryStream(Path.of("src/test/java"), "*EdgesTest.java")) {
            for (Path source : sources) test.mark(source);
        }
        for (String part : test.doc.parts().keySet()) {
            if (part.startsWith("Terms") || part.startsWith("Promise ")) test.look(part);
        }
        for (int i = 1; i <= 49; i++) Due.is("promise " + i + " has a test of an edge", test.within.containsKey("Promise " + i) ? 1 : 0, 1);
        Due.end();
    }

    private void mark(Path source) throws IOException {
        Matcher edge = EDGE.matcher(Files.readString(source));
        while (edge.find()) {
            String at = edge.group(1);
            String says = edge.group(2).replace("\\\"", "\"");
            int from = doc.place(at, says);
            Due.is(edge.group(3) + " is named by where its sentence stands", edge.group(3).startsWith(named(at)) ? 1 : 0, 1);
            if (from >= 0) within.computeIfAbsent(at, part -> new BitSet()).set(from, from + says.length());
        }
    }

    /** "Promise 3" begins names by promise03, "Terms 2" by terms2, "What it is" by whatItIs. */
    private static String named(String at) {
        if (at.startsWith("Promise ")) return String.format("promise%02d", Integer.parseInt(at.substring(8)));
        return at.equals("What it is") ? "whatItIs" : at.toLowerCase().replace(" ", "");
    }

    private void look(String part) {
        String text = doc.parts().get(part);
        BitSet tested = within.getOrDefault(part, new BitSet());
        Matcher boundary = BOUNDARY.matcher(text);
        while (boundary.find()) {
            boolean isTested = tested.nextClearBit(boundary.start()) >= boundary.end();
            Due.is(part + ": '" + boundary.group() + "' at " + boundary.start() + " is within a tested sentence", isTested ? 1 : 0, 1);
        }
    }
}
