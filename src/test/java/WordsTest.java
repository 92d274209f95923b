/**
 * Promise 3, the words of a command: for each command what its line must have, no word less or more, just one space
 * between words, and numbers at their bounds. What is refused leaves the game as it was.
 */
public final class WordsTest {
    private static final Checks CHECKS = new Checks();
    /** The position in which lines are tried: node 3 with an other line, a mark, a remark, a tag and a result. */
    private static final String START = "set 4k3/8/8/8/8/8/4P3/4K3 w - - 0 1\nplay e4 Kd7\nback 1\nplay Ke7\nmark 7\n"
            + "say so\ntag A b\nend 1-0\n";
    private static final String VIEW = "back 0\nfen\nwrite\nothers\n";
    /** Every command with words that may stand as they are; none of these lines has fault 1. */
    private static final String[] LINES = {
        "new", "write", "fen", "moves", "others", "play Kd2", "play Kd2 Kd6", "back 0", "back 2", "go 0", "go 3", "mark 1",
        "lead", "end *", "end 1-0", "end 0-1", "end 1/2-1/2", "state", "ways 1", "sight", "think 1", "think 1 calm",
        "test Kd2 1 0", "test Kd2 1 -5", "table 64", "keys direct mate 1", "keys self stale 1", "least direct stale 1",
        "least self mate 1", "refute direct mate 1 Kd2", "refute self stale 1 Kd2", "help mate 1", "help stale 1",
        "line mate 1 0", "line stale 1 0", "ends",
    };
    /** Words that have another one in their place: capital letters, a part of the word, and more than the word. */
    private static final String[] WRONG = {
        "", "New", "nEW", "ne", "newx", "new.", "writ", "writes", "Fen", "fens", "move", "movess", "other", "otherss",
        "plays Kd2", "pla Kd2", "Play Kd2", "backs 0", "bac 0", "g 0", "goo 0", "marks 1", "leads", "lea", "ends 0", "en *",
        "End *", "end", "end 1-1", "end 0-0", "end 1", "end 1/2", "end 1/2-1/", "end 1/2-1/2x", "end **", "end -", "states",
        "stat", "way 1", "wayss 1", "sights", "thinks 1", "think 1 Calm", "think 1 cal", "think 1 calms", "think calm",
        "think calm 1", "tests Kd2 1 0", "test 1 Kd2 0", "tables 1", "key direct mate 1", "keys Direct mate 1",
        "keys direc mate 1", "keys directs mate 1", "keys selfs mate 1", "keys direct mat 1", "keys direct mates 1",
        "keys direct stales 1", "keys mate direct 1", "keys help mate 1", "least direct 1 mate", "refute direct mate Kd2 1",
        "help mates 1", "help stal 1", "help direct 1", "help 1 mate", "lines mate 1 0", "line mates 1 0", "line direct 1 0",
        "set", "tag", "tag A", "tag ", "tag  b", "say }", "quit", "=", "?", "-", "0", "*", ".", "..", "#", "}",
    };

    public static void main(String[] args) {
        for (String line : LINES) {
            words(line);
        }
        for (String line : WRONG) {
            refused(line.isEmpty() ? " " : line);
        }
        number("back ", "", 0, 300);
        number("go ", "", 0, 300);
        number("mark ", "", 0, 255);
        number("ways ", "", 0, 3);
        number("think ", "", 1, 4);
        number("think ", " calm", 1, 4);
        number("test Kd2 ", " 0", 1, 4);
        number("test Kd2 1 ", "", -999999999, 999999999);
        number("table ", "", 0, 128);
        for (String problem : new String[] {"direct mate ", "direct stale ", "self mate ", "self stale "}) {
            number("keys " + problem, "", 1, 3);
            number("least " + problem, "", 1, 3);
            number("refute " + problem, " Kd2", 1, 3);
        }
        for (String goal : new String[] {"mate ", "stale "}) {
            number("help " + goal, "", 1, 2);
            number("line " + goal, " 0", 1, 2);
            number("line " + goal + "1 ", "", 0, 999999999);
        }
        texts();
        CHECKS.finish("WordsTest");
    }

    private static String answer(String line) {
        House house = new House();
        house.ask(START);
        return house.ask(line + "\n");
    }

    private static void taken(String line) {
        CHECKS.same(line + " has fault 1", answer(line).equals("? 1\n"), false);
    }

    private static void refused(String line) {
        House house = new House();
        house.ask(START);
        String before = house.look(VIEW);
        CHECKS.same(line, house.ask(line + "\n" + VIEW), "? 1\n" + before);
        CHECKS.same(line + ": faults", house.faults, 1);
    }

    private static void words(String line) {
        taken(line);
        refused(" " + line);
        refused(line + " ");
        refused(line.toUpperCase());
        refused(line + "\t");
        refused("\t" + line);
        for (int at = line.indexOf(' '); at >= 0; at = line.indexOf(' ', at + 1)) {
            refused(line.substring(0, at) + " " + line.substring(at));
            refused(line.substring(0, at) + "\t" + line.substring(at + 1));
            if (!line.startsWith("play") || at == 4) {
                refused(line.substring(0, at) + line.substring(at + 1));
            }
        }
        int last = line.lastIndexOf(' ');
        String fewer = last < 0 ? "" : line.substring(0, last);
        if (last >= 0 && !fewer.equals("play Kd2") && !fewer.equals("think 1")) {
            refused(fewer);
        }
        if (!line.startsWith("play")) {
            refused(line + " 1");
            refused(line + " x");
        }
    }

    /** A number at its bounds and next to them, and written as numbers are not. */
    private static void number(String before, String behind, int least, int most) {
        taken(before + least + behind);
        taken(before + (least + 1) + behind);
        taken(before + (most - 1) + behind);
        taken(before + most + behind);
        refused(before + (least - 1) + behind);
        refused(before + (most + 1) + behind);
        for (String wrong : new String[] {"-0", "00", "01", "-01", "+1", "1.", "1.0", "1e0", "0x1", "1x", "x1", "x", "-", "--1",
                "1-", "000000001", "1000000000", "0000000001", "4294967296", "4294967297", "-4294967295", "2147483647",
                "2147483648", "-2147483648", "18446744073709551617", "99999999999999999999", "\u00b9", "N", "/", ":", "1/", "1:",
                "/1", ":1"}) {
            refused(before + wrong + behind);
        }
        if (least > -1) {
            refused(before + "-1" + behind);
            refused(before + "-999999999" + behind);
        }
        if (most < 999999999) {
            refused(before + "999999999" + behind);
        }
    }

    /** set, say and tag: all behind a space, that may have spaces of its own. */
    private static void texts() {
        CHECKS.same("say alone", answer("say"), "= 0\n");
        CHECKS.same("say and a space", answer("say "), "= 0\n");
        CHECKS.same("say and two spaces", answer("say  "), "= 1\n");
        CHECKS.same("says", answer("says x"), "? 1\n");
        CHECKS.same("a space before say", answer(" say x"), "? 1\n");
        CHECKS.same("set and a space", answer("set "), "? 7 1\n");
        CHECKS.same("a space before set", answer(" set 4k3/8/8/8/8/8/8/4K3 w - - 0 1"), "? 1\n");
        CHECKS.same("set and two spaces", answer("set  4k3/8/8/8/8/8/8/4K3 w - - 0 1"), "? 7 1\n");
        CHECKS.same("tag without a second space", answer("tag C"), "? 1\n");
        CHECKS.same("tag with a second space", answer("tag C "), "= 3\n");
        CHECKS.same("a space before tag", answer(" tag C d"), "? 1\n");
        CHECKS.same("tag and two spaces", answer("tag  C d"), "? 1\n");
        CHECKS.same("tag with two spaces in its value", answer("tag C  "), "= 3\n");
    }
}
