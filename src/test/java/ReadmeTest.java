import java.io.IOException;
import java.nio.file.Files;
import java.nio.file.Path;
import java.util.regex.Matcher;
import java.util.regex.Pattern;

/** The example of README.md answers what stands behind it there. */
public final class ReadmeTest extends Answers {
    private static String readme;

    private ReadmeTest() {
    }

    /** README.md has the call on a line of its own, with the answer first in the comment behind it. */
    private static void shown(String call, String got) {
        Matcher line = Pattern.compile(Pattern.quote(call) + "; +// ([^ :;,\n]+)").matcher(readme);
        due(call + " answered " + got + "; that README.md says so", line.find() && line.group(1).equals(got), true);
    }

    private static String text() {
        Matcher told = Pattern.compile("String text = \"([^\"]*)\";").matcher(readme);
        return told.find() ? told.group(1) : "";
    }

    public static void main(String[] args) throws IOException {
        readme = Files.readString(Path.of("README.md"));
        at("README.md");
        PartedPension x = new PartedPension();
        Feeder.type(x, text());
        shown("x.tell()", "" + x.tell());
        shown("x.whole(792)", "" + x.whole(792));
        shown("x.share(0, false)", "" + x.share(0, false));
        shown("x.share(0, true)", "" + x.share(0, true));
        shown("x.paid(780, 10)", "" + x.paid(780, 10));
        shown("x.sum(0, 780, 792)", "" + x.sum(0, 780, 792));
        shown("x.set(2, 0, 1)", "" + x.set(2, 0, 1));
        shown("x.own(0)", "" + x.own(0));
        shown("x.crosses(0)", "" + x.crosses(0));
        shown("x.undo()", "" + x.undo());
        due("HOW behind undo()", x.spouse(0, 4), 0);
        finish("README.md");
    }
}
