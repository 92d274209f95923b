import java.io.IOException;
import java.nio.charset.StandardCharsets;
import java.nio.file.Files;
import java.nio.file.Path;
import java.util.ArrayList;
import java.util.List;
import java.util.stream.Collectors;
import java.util.stream.Stream;

/**
 * Promise 3 by written talks: in each file lines that begin with "> " are fed (as many as stand together in one text),
 * the lines behind them are what OUT must have then. "---" begins a new object, "# " a comment.
 */
public final class TranscriptTest {
    private static final Checks CHECKS = new Checks();

    public static void main(String[] args) throws IOException {
        List<Path> files;
        try (Stream<Path> found = Files.list(Path.of(args[0]))) {
            files = found.filter(file -> file.toString().endsWith(".txt")).sorted().collect(Collectors.toList());
        }
        for (Path file : files) {
            runFile(file);
        }
        CHECKS.finish("TranscriptTest");
    }

    private static void runFile(Path file) throws IOException {
        List<String> lines = new ArrayList<>(Files.readAllLines(file, StandardCharsets.ISO_8859_1));
        House apart = new House();
        House together = new House();
        StringBuilder allFed = new StringBuilder();
        StringBuilder allDue = new StringBuilder();
        int at = 0;
        while (at < lines.size()) {
            if (lines.get(at).equals("---")) {
                CHECKS.same(file.getFileName() + ", in one text:\n" + allFed, together.ask(allFed.toString()),
                        allDue.toString());
                apart = new House();
                together = new House();
                allFed.setLength(0);
                allDue.setLength(0);
                at++;
                continue;
            }
            if (lines.get(at).startsWith("# ")) {
                at++;
                continue;
            }
            StringBuilder fed = new StringBuilder();
            while (at < lines.size() && lines.get(at).startsWith(">")) {
                fed.append(lines.get(at).length() > 2 ? lines.get(at).substring(2) : "").append('\n');
                at++;
            }
            StringBuilder due = new StringBuilder();
            int faults = 0;
            while (at < lines.size() && !isInput(lines.get(at))) {
                due.append(lines.get(at)).append('\n');
                faults += lines.get(at).startsWith("?") ? 1 : 0;
                at++;
            }
            String what = file.getFileName() + " line " + at + ": " + fed;
            CHECKS.same(what, apart.ask(fed.toString()), due.toString());
            CHECKS.same(what + "end answers", apart.faults, faults);
            // A game without its dot would swallow what comes behind it, so it gets one when all is fed at once.
            allFed.append(fed).append(openGame(fed.toString()) ? ".\n" : "");
            allDue.append(due);
        }
        CHECKS.same(file.getFileName() + ", in one text:\n" + allFed, together.ask(allFed.toString()),
                allDue.toString());
    }

    private static boolean isInput(String line) {
        return line.startsWith(">") || line.startsWith("# ") || line.equals("---");
    }

    private static boolean openGame(String fed) {
        return fed.startsWith("game\n") && !fed.contains("\n.\n");
    }
}
