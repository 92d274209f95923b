import java.io.IOException;
import java.nio.ByteBuffer;
import java.nio.charset.StandardCharsets;
import java.nio.file.Files;
import java.nio.file.Path;
import java.util.ArrayList;
import java.util.List;
import java.util.Set;
import java.util.TreeSet;
import java.util.regex.Matcher;
import java.util.regex.Pattern;

/** What README.md shows is so: its code stands here word by word and is run, and its talks are had. */
public final class ReadmeTest {
    private static final Checks CHECKS = new Checks();
    private static final Path README = Path.of("README.md");
    private static final Path THIS = Path.of("src", "test", "java", "ReadmeTest.java");
    private static final Path CLASS = Path.of("src", "main", "java", "ChessHouse.java");

    public static void main(String[] args) throws IOException {
        String readme = Files.readString(README, StandardCharsets.ISO_8859_1);
        code(readme);
        talks(readme);
        commands(readme);
        CHECKS.finish("ReadmeTest");
    }

    private static String firstSteps() {
        StringBuilder printed = new StringBuilder();
        ChessHouse house = new ChessHouse();
        // "play e4 e5", line end, "state", line end, and zeros that are not looked at.
        house.feed(0x706c6179, 0x20653420, 0x65350a73, 0x74617465, 0x0a000000);
        int faults = house.end(17);
        for (int i = 0; i < house.size(); i++) {
            printed.append((char) house.out(i));
        }
        return printed + "faults " + faults;
    }

    static String ask(ChessHouse house, String lines) {
        int feeds = (lines.length() + 19) / 20;
        ByteBuffer bytes = ByteBuffer.allocate(20 * feeds);
        bytes.put(lines.getBytes(StandardCharsets.ISO_8859_1)).rewind();
        for (int i = 0; i < feeds; i++) {
            house.feed(bytes.getInt(), bytes.getInt(), bytes.getInt(), bytes.getInt(), bytes.getInt());
        }
        house.end(lines.length());
        StringBuilder answers = new StringBuilder();
        for (int i = 0; i < house.size(); i++) {
            answers.append((char) house.out(i));
        }
        return answers.toString();
    }

    /** All blocks of README.md that are marked with a word, each with its lines. */
    private static List<List<String>> blocks(String readme, String mark) {
        List<List<String>> found = new ArrayList<>();
        Matcher block = Pattern.compile("(?s)\n```" + mark + "\n(.*?)\n```\n").matcher(readme);
        while (block.find()) {
            found.add(List.of(block.group(1).split("\n")));
        }
        return found;
    }

    private static void code(String readme) throws IOException {
        Set<String> here = new TreeSet<>();
        for (String line : Files.readAllLines(THIS, StandardCharsets.ISO_8859_1)) {
            here.add(line.strip());
        }
        List<List<String>> blocks = blocks(readme, "java");
        CHECKS.same("pieces of code in README.md", blocks.size(), 2);
        for (List<String> block : blocks) {
            for (String line : block) {
                // Printing is all that this test does in another way.
                String same = line.strip().replace("System.out.print(", "printed.append(");
                CHECKS.same("a line of README.md is run here: " + line, here.contains(same), true);
            }
        }
        CHECKS.same("what the first steps print", firstSteps(), "= 2\n= 0 1 0\nfaults 0");
        CHECKS.same("README.md tells that", readme.contains("prints `= 2` and `= 0 1 0`, and `faults` is 0."), true);
        CHECKS.same("asked nothing", ask(new ChessHouse(), ""), "");
        CHECKS.same("asked 19 bytes", ask(new ChessHouse(), "play e4 e5 Nf3 Nc6\n"), "= 4\n");
        CHECKS.same("asked 20 bytes", ask(new ChessHouse(), "play e4 e5 Nf3 Nc6\n\n"), "= 4\n");
        CHECKS.same("asked 21 bytes", ask(new ChessHouse(), "play e4 e5 Nf3 Nc6\n\n?"), "= 4\n? 1\n");
    }

    private static void talks(String readme) {
        List<List<String>> blocks = blocks(readme, "text");
        CHECKS.same("talks in README.md", blocks.size(), 4);
        for (List<String> block : blocks) {
            House house = new House();
            int at = 0;
            while (at < block.size()) {
                StringBuilder fed = new StringBuilder();
                for (; at < block.size() && block.get(at).startsWith(">"); at++) {
                    fed.append(block.get(at).length() > 2 ? block.get(at).substring(2) : "").append('\n');
                }
                StringBuilder due = new StringBuilder();
                for (; at < block.size() && !block.get(at).startsWith(">"); at++) {
                    due.append(block.get(at)).append('\n');
                }
                CHECKS.same("a talk of README.md: " + fed, house.ask(fed.toString()), due.toString());
            }
        }
    }

    /** The table of lines has each command of the class, and no other one. */
    private static void commands(String readme) throws IOException {
        Set<String> told = new TreeSet<>();
        Matcher row = Pattern.compile("\n\\| `([a-z]+)[^`(]*`").matcher(readme);
        while (row.find()) {
            told.add(row.group(1));
        }
        Set<String> known = new TreeSet<>();
        String enumeration = Files.readString(CLASS, StandardCharsets.ISO_8859_1).split("private enum Command")[1];
        Matcher word = Pattern.compile("[A-Z]+\\(\"([a-z]+)\",").matcher(enumeration);
        while (word.find()) {
            known.add(word.group(1));
        }
        CHECKS.same("how many commands there are", known.size(), 27);
        CHECKS.same("the commands of README.md", told, known);
    }
}
