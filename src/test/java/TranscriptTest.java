import java.io.IOException;
import java.nio.charset.StandardCharsets;
import java.nio.file.Files;
import java.nio.file.Path;
import java.util.ArrayList;
import java.util.List;
import java.util.regex.Matcher;
import java.util.regex.Pattern;
import java.util.stream.Collectors;
import java.util.stream.Stream;

/**
 * Promise 3 by written talks: in each file lines that begin with "> " are fed (as many as stand together in one text),
 * the lines behind them are what OUT must have then. "---" begins a new object, "# " a comment; "<<200 a>>" stands for
 * 200 times a, and "<<#31>>" for the byte 31. A line that is refused, or that only tells something, must leave the
 * game as it was; this is looked at for each of them.
 */
public final class TranscriptTest {
    private static final Checks CHECKS = new Checks();
    private static final Pattern SHORT = Pattern.compile("<<(?:#(\\d+)|(\\d+) (.*?))>>");
    /** What can be seen of a game and of the node that is HERE. */
    private static final String LOOK = "back 0\nothers\nfen\nstate\nwrite\n";
    private static final List<String> TELLERS = List.of("write", "fen", "moves", "others", "state", "ways", "sight",
            "think", "test", "table", "keys", "least", "refute", "help", "line", "ends");

    private final String name;
    private final House apart = new House();
    private final StringBuilder allFed = new StringBuilder();
    private final StringBuilder allDue = new StringBuilder();
    private String view = "";

    private TranscriptTest(String name) {
        this.name = name;
    }

    public static void main(String[] args) throws IOException {
        List<Path> files;
        try (Stream<Path> found = Files.list(Path.of(args[0]))) {
            files = found.filter(file -> file.toString().endsWith(".txt")).sorted().collect(Collectors.toList());
        }
        for (Path file : files) {
            runFile(file);
        }
        CHECKS.finish("TranscriptTest");
    }

    private static void runFile(Path file) throws IOException {
        List<String> lines = new ArrayList<>();
        for (String line : Files.readAllLines(file, StandardCharsets.ISO_8859_1)) {
            lines.add(whole(line));
        }
        TranscriptTest talk = new TranscriptTest(file.getFileName().toString());
        int at = 0;
        while (at < lines.size()) {
            if (lines.get(at).equals("---")) {
                talk.finish();
                talk = new TranscriptTest(file.getFileName().toString());
                at++;
            } else if (lines.get(at).startsWith("# ")) {
                at++;
            } else {
                at = talk.runPart(lines, at);
            }
        }
        talk.finish();
    }

    /** A line with all that it has in short written out. */
    private static String whole(String line) {
        return SHORT.matcher(line).replaceAll(found -> Matcher.quoteReplacement(found.group(1) != null
                ? String.valueOf((char) Integer.parseInt(found.group(1)))
                : found.group(3).repeat(Integer.parseInt(found.group(2)))));
    }

    private int runPart(List<String> lines, int begin) {
        int at = begin;
        StringBuilder fed = new StringBuilder();
        while (at < lines.size() && lines.get(at).startsWith(">")) {
            fed.append(lines.get(at).length() > 2 ? lines.get(at).substring(2) : "").append('\n');
            at++;
        }
        StringBuilder due = new StringBuilder();
        int faults = 0;
        while (at < lines.size() && !isInput(lines.get(at))) {
            due.append(lines.get(at)).append('\n');
            faults += lines.get(at).startsWith("?") ? 1 : 0;
            at++;
        }
        String what = name + " line " + (begin + 1) + ": " + fed;
        CHECKS.same(what, apart.look(fed.toString()), due.toString());
        CHECKS.same(what + "end answers", apart.faults, faults);
        changes(what, fed.toString(), due.toString());
        // A game without its dot would swallow what comes behind it, so it gets one when all is fed at once.
        allFed.append(House.closed(fed.toString()));
        allDue.append(due);
        return at;
    }

    /** Keeps what changes the game, and looks whether all else leaves it as it was. */
    private void changes(String what, String fed, String due) {
        String word = fed.split("[ \n]", 2)[0];
        boolean refused = due.startsWith("?") && due.indexOf('\n') == due.length() - 1 && !word.equals("play");
        if (due.isEmpty() || refused || TELLERS.contains(word)) {
            if (view.isEmpty()) {
                view = apart.look(LOOK);
            }
            CHECKS.same(what + "leaves all as it was", apart.look(House.closed(fed) + LOOK), due + view);
            return;
        }
        if (due.startsWith("=") && List.of("new", "set", "game").contains(word)) {
            apart.forget();
        }
        apart.keep(fed);
        view = "";
    }

    private void finish() {
        CHECKS.same(name + ", in one text:\n" + allFed, new House().ask(allFed.toString()), allDue.toString());
    }

    private static boolean isInput(String line) {
        return line.startsWith(">") || line.startsWith("# ") || line.equals("---");
    }
}
