import java.io.IOException;
import java.nio.file.Files;
import java.nio.file.Path;
import java.util.List;

/** The example of README.md stands there word for word, and each call answers what it tells behind it. */
public final class ReadmeTests {
    private static final String FENCE = "```";

    private static int wrong;
    private static int lines;
    private static List<String> example;

    /** The lines between the fences of the README's first example in Java. */
    private static List<String> exampleOf(List<String> readme) {
        int first = readme.indexOf(FENCE + "java") + 1;
        int length = readme.subList(first, readme.size()).indexOf(FENCE);
        return readme.subList(first, first + Math.max(0, length));
    }

    private static void is(String what, String want, String got) {
        if (!want.equals(got)) {
            wrong++;
            System.out.println("README.md, " + what + ": there stands " + got + ", due is " + want);
        }
    }

    /** The next line of the example: its code, and the answer up to a colon, a comma or the end of the line. */
    private static void line(String code, Object answer) {
        String text = lines < example.size() ? example.get(lines) : "";
        lines++;
        int comment = text.indexOf("//");
        is("line " + lines, code, (comment < 0 ? text : text.substring(0, comment)).strip());
        is(code, String.valueOf(answer), comment < 0 ? "" : text.substring(comment + 2).strip().split("[:,]")[0]);
    }

    private static void lineWithoutAnswer(String code) {
        line(code, "");
    }

    public static void main(String[] args) throws IOException {
        List<String> readme = Files.readAllLines(Path.of("README.md"));
        example = exampleOf(readme);

        lineWithoutAnswer("Festivalgrid day = new Festivalgrid();");
        Festivalgrid day = new Festivalgrid();
        line("day.startSet(0);", day.startSet(0));
        int act = day.plan(0, 100, 60, 1, 80, 50, 3);
        line("int act = day.plan(0, 100, 60, 1, 80, 50, 3);", act);
        line("day.reason(0, 150, 30, 1, 10, 20, 9);", day.reason(0, 150, 30, 1, 10, 20, 9));
        line("day.plan(0, 150, 30, 1, 10, 20, 9);", day.plan(0, 150, 30, 1, 10, 20, 9) == Festivalgrid.NONE ? "NONE" : "");
        line("day.firstStart(act, 200);", day.firstStart(act, 200));
        line("day.move(act, 941);", day.move(act, 941));
        line("day.storm(0, 120, 30);", day.storm(0, 120, 30));
        line("day.start(act);", day.start(act));
        line("day.type('a');", day.type('a'));
        line("day.type('i');", day.type('i'));
        line("day.type('r');", day.type('r'));
        line("day.grant(act);", day.grant(act));
        line("day.ofAct(act, 2);", day.ofAct(act, 2));
        line("day.wipe();", day.wipe());
        line("day.load(150, 1);", day.load(150, 1));
        line("day.noise(150, 0);", day.noise(150, 0));
        line("day.channels(150);", day.channels(150));
        line("day.isFineByMinutes();", day.isFineByMinutes());
        is("the example's length", String.valueOf(lines), String.valueOf(example.size()));

        System.out.println(wrong == 0 ? "ReadmeTests: the example is true" : wrong + " things are not as due");
        if (wrong != 0) System.exit(1);
    }
}
