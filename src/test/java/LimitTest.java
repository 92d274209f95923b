/** Promise 3 at the limits of trees: 300 moves, and all that a game may have at once. */
public final class LimitTest {
    private static final Checks CHECKS = new Checks();
    private static final String SHUFFLE = "Nf3 Nf6 Ng1 Ng8 ";

    public static void main(String[] args) {
        playing();
        playingOthers();
        going();
        reading();
        readingOthers();
        full();
        longest();
        CHECKS.finish("LimitTest");
    }

    /** So many moves that go round and round. */
    private static String moves(int many) {
        return SHUFFLE.repeat(76).substring(0, many * 4);
    }

    /** play: fault 4 is the 301st move, told by its word; what was played before stays. */
    private static void playing() {
        House all = new House();
        CHECKS.same("301 moves at once", all.ask("play " + moves(301).trim() + "\n"), "? 4 301\n");
        CHECKS.same("300 are there", all.ask("back 0\nstate\nfen\nback 300\n"), "= 300\n= 4 76 0\n"
                + "= rnbqkbnr/pppppppp/8/8/8/8/PPPPPPPP/RNBQKBNR w KQkq - 300 151\n= 0\n");
        CHECKS.same("old moves can be played, new ones can't",
                all.ask("play Nf3 Nf6 Ng1\nback 3\nplay e4\nplay e9\nplay e4+\n"), "= 3\n= 0\n? 4 1\n? 2 1\n? 3 1\n");
        CHECKS.same("a mark, a remark, a tag and lead are fine there",
                all.ask("go 300\nmark 1\nsay x\ntag A b\nlead\nend 1-0\n"), "= 300\n= 1\n= 1\n= 1\n= 0\n=\n");
        // All moves but those of pawns leave the clock above 100.
        CHECKS.same("looks at the end of a long game", all.ask("go 300\nthink 2\ntest Nf3 2 0\ntest Nf3 2 1\n"),
                "= 300\n= 10 a4 a5\n= 1\n= 0\n");
        House house = new House();
        CHECKS.same("299 moves", house.ask("play " + moves(299).trim() + "\n"), "= 299\n");
        CHECKS.same("the 301st is the second of two", house.ask("play Ng8 Nf3\n"), "? 4 2\n");
        CHECKS.same("the 300th stays", house.ask("back 0\nplay Nf3\nback 1\n"), "= 300\n? 4 1\n= 299\n");
    }

    /** Other lines count with all others. */
    private static void playingOthers() {
        House house = new House();
        house.ask("play " + moves(298).trim() + "\n");
        CHECKS.same("move 299 is another line", house.ask("back 1\nplay e5\n"), "= 297\n= 299\n");
        CHECKS.same("and so is the 300th", house.ask("go 0\nplay e4\n"), "= 0\n= 300\n");
        CHECKS.same("there is no room for one more", house.ask("play e5\ngo 298\nplay Ng1\ngo 0\nplay d4\n"),
                "? 4 1\n= 298\n? 4 1\n= 0\n? 4 1\n");
        CHECKS.same("nothing of that is there", house.ask("others\ngo 300\nothers\ngo 298\nothers\n"),
                "= 2 Nf3 e4\n= 300\n= 0\n= 298\n= 0\n");
        CHECKS.same("lead changes no number", house.ask("go 300\nlead\nback 1\nothers\n"), "= 300\n= 1\n= 0\n= 2 e4 Nf3\n");
    }

    /** back and go up to 300. */
    private static void going() {
        House house = new House();
        house.ask("play " + moves(299).trim() + "\n");
        CHECKS.same("with 299 moves", house.ask("go 299\nback 300\nback 299\ngo 300\nback 0\n"),
                "= 299\n? 5\n= 0\n? 5\n= 0\n");
        CHECKS.same("with 300", house.ask("go 299\nplay Ng8\nback 301\nback 300\ngo 300\nback 299\ngo 301\n"),
                "= 299\n= 300\n? 1\n= 0\n= 300\n= 1\n? 1\n");
    }

    /** A text: fault 8 is the 301st move, behind faults 4 to 6. */
    private static void reading() {
        CHECKS.same("a text of 299 moves", new House().ask("game\n" + moves(299) + "*\n"), "= 299\n");
        CHECKS.same("a text of 300 moves", new House().ask("game\n" + moves(300) + "*\n"), "= 300\n");
        CHECKS.same("one of 301", new House().ask("game\n" + moves(300) + "e4 *\n"), "? 6 8 1200\n");
        CHECKS.same("301, the last one faulty", new House().ask("game\n" + moves(300) + "e9 *\n"), "? 6 4 1200\n");
        CHECKS.same("301, the last one nearly right", new House().ask("game\n" + moves(300) + "xe4 *\n"),
                "? 6 5 1200\n");
        CHECKS.same("301, the last one there already", new House().ask("game\n" + moves(300) + "(Ng8) *\n"),
                "? 6 6 1201\n");
        CHECKS.same("301 with a wrong number", new House().ask("game\n" + moves(300) + "150. e4 *\n"),
                "? 6 7 1200\n");
        CHECKS.same("301 with the right number", new House().ask("game\n" + moves(300) + "151. e4 *\n"),
                "? 6 8 1205\n");
        CHECKS.same("300 and a number behind them", new House().ask("game\n" + moves(300) + "151. *\n"),
                "? 6 1 1205\n");
        House house = new House();
        house.ask("play e4\n");
        CHECKS.same("a faulty text changes nothing", house.ask("game\n" + moves(300) + "e4 *\n.\nfen\nwrite\n"),
                "? 6 8 1200\n= rnbqkbnr/pppppppp/8/8/4P3/8/PPPP1PPP/RNBQKBNR b KQkq - 0 1\n= 7\n1. e4 *\n");
    }

    private static void readingOthers() {
        CHECKS.same("299 and another line", new House().ask("game\n" + moves(299) + "(a3) *\n"), "= 300\n");
        CHECKS.same("300 and another line", new House().ask("game\n" + moves(300) + "(a6) *\n"), "? 6 8 1201\n");
        CHECKS.same("299 and another line of two moves", new House().ask("game\n" + moves(299) + "(a3 a6) *\n"),
                "? 6 8 1200\n");
        CHECKS.same("an open bracket behind 300 is no fault yet", new House().ask("game\n" + moves(300) + "(\n"),
                "? 6 1 1202\n");
    }

    /** Everything at once: eight long tags, a long remark at node 0 and at a move, four marks. */
    private static void full() {
        House house = new House();
        StringBuilder talk = new StringBuilder();
        StringBuilder due = new StringBuilder();
        for (char c = 'A'; c < 'I'; c++) {
            talk.append("tag ").append(String.valueOf(c).repeat(12)).append(' ').append("\"".repeat(96)).append('\n');
            due.append('[').append(String.valueOf(c).repeat(12)).append(" \"").append("\\\"".repeat(96)).append("\"]\n");
        }
        talk.append("say ").append("~".repeat(200)).append("\nplay e4\nsay ").append(" ".repeat(200))
                .append("\nmark 255\nmark 255\nmark 255\nmark 255\nend 1/2-1/2\n");
        due.append("\n{").append("~".repeat(200)).append("} 1. e4 $255 $255 $255 $255 {").append(" ".repeat(200))
                .append("} 1/2-1/2");
        CHECKS.same("all of it is taken", house.ask(talk.toString()),
                "= 1\n= 2\n= 3\n= 4\n= 5\n= 6\n= 7\n= 8\n= 200\n= 1\n= 200\n= 1\n= 2\n= 3\n= 4\n=\n");
        CHECKS.same("and written", house.ask("write\n"), "= " + due.length() + "\n" + due + "\n");
        House again = new House();
        CHECKS.same("and read again", again.ask("game\n" + due + "\n"), "= 1\n");
        CHECKS.same("and written again", again.ask("write\n"), "= " + due.length() + "\n" + due + "\n");
    }

    /** As much as the tape can bring within 512 calls: 300 moves, most of them with all that they may have. */
    private static void longest() {
        House house = new House();
        StringBuilder text = new StringBuilder("game\n[FEN \"rn2k2r/8/8/8/8/8/8/RN2K2R w KQkq - 0 999\"]");
        StringBuilder due = new StringBuilder("[FEN \"rn2k2r/8/8/8/8/8/8/RN2K2R w KQkq - 0 999\"]\n\n");
        for (int i = 0; i < 300; i++) {
            String move = new String[] {"Nc3", "Nc6", "Nb1", "Nb8"}[i % 4];
            text.append(move).append("$0$255$7{").append(i % 10).append("}");
            due.append(999 + i / 2).append(i % 2 == 0 ? ". " : "... ").append(move).append(" $0 $255 $7 {")
                    .append(i % 10).append("} ");
        }
        CHECKS.same("its nodes", house.ask(text + "*\n"), "= 300\n");
        due.append("*");
        CHECKS.same("as it is written", house.look("write\n"), "= " + due.length() + "\n" + due + "\n");
        CHECKS.same("the last node of all", house.look("go 300\nfen\nback 300\n"),
                "= 300\n= rn2k2r/8/8/8/8/8/8/RN2K2R w KQkq - 300 999\n= 0\n");
    }
}
