/** Promise 3 at the limits of trees: 300 moves, and all that a game may have at once. */
public final class LimitTest {
    private static final Checks CHECKS = new Checks();

    public static void main(String[] args) {
        String shuffle = "Nf3 Nf6 Ng1 Ng8 ";
        playing(shuffle.repeat(75));
        reading(shuffle.repeat(75));
        longest();
        CHECKS.finish("LimitTest");
    }

    private static void playing(String moves) {
        House house = new House();
        CHECKS.same("301 moves", house.ask("play " + moves + "e4\n"), "? 4 301\n");
        CHECKS.same("300 are there", house.ask("back 0\nstate\nfen\nback 300\n"), "= 300\n= 4 76 0\n"
                + "= rnbqkbnr/pppppppp/8/8/8/8/PPPPPPPP/RNBQKBNR w KQkq - 300 151\n= 0\n");
        CHECKS.same("old moves can be played, new ones can't",
                house.ask("play Nf3 Nf6 Ng1\nback 3\nplay e4\nplay e9\n"), "= 3\n= 0\n? 4 1\n? 2 1\n");
        // All moves but those of pawns leave the clock above 100.
        CHECKS.same("looks at the end of a long game", house.ask("go 300\nthink 2\ntest Nf3 2 0\ntest Nf3 2 1\n"),
                "= 300\n= 10 a4 a5\n= 1\n= 0\n");
    }

    private static void reading(String moves) {
        CHECKS.same("a text of 300 moves", new House().ask("game\n" + moves + "*\n"), "= 300\n");
        CHECKS.same("one of 301", new House().ask("game\n" + moves + "e4 *\n"), "? 6 8 1200\n");
        CHECKS.same("301, the last one faulty", new House().ask("game\n" + moves + "e9 *\n"), "? 6 4 1200\n");
        CHECKS.same("301, the last one nearly right", new House().ask("game\n" + moves + "xe4 *\n"),
                "? 6 5 1200\n");
        CHECKS.same("301, the last one there already", new House().ask("game\n" + moves + "(Ng8) *\n"),
                "? 6 6 1201\n");
        CHECKS.same("301 with another line", new House().ask("game\n" + moves + "(a6) *\n"), "? 6 8 1201\n");
        House house = new House();
        house.ask("play e4\n");
        CHECKS.same("a faulty text changes nothing", house.ask("game\n" + moves + "e4 *\n.\nfen\nwrite\n"),
                "? 6 8 1200\n= rnbqkbnr/pppppppp/8/8/4P3/8/PPPP1PPP/RNBQKBNR b KQkq - 0 1\n= 7\n1. e4 *\n");
    }

    /** As much as the tape can bring within 512 calls: 300 moves, most of them with all that they may have. */
    private static void longest() {
        House house = new House();
        StringBuilder text = new StringBuilder("game\n[FEN \"rn2k2r/8/8/8/8/8/8/RN2K2R w KQkq - 0 999\"]");
        StringBuilder due = new StringBuilder("[FEN \"rn2k2r/8/8/8/8/8/8/RN2K2R w KQkq - 0 999\"]\n\n");
        for (int i = 0; i < 300; i++) {
            String move = new String[] {"Nc3", "Nc6", "Nb1", "Nb8"}[i % 4];
            text.append(move).append("$0$255$7{").append(i % 10).append("}");
            due.append(999 + i / 2).append(i % 2 == 0 ? ". " : "... ").append(move).append(" $0 $255 $7 {")
                    .append(i % 10).append("} ");
        }
        CHECKS.same("its nodes", house.ask(text + "*\n"), "= 300\n");
        due.append("*");
        CHECKS.same("as it is written", house.look("write\n"), "= " + due.length() + "\n" + due + "\n");
        CHECKS.same("the last node of all", house.look("go 300\nfen\nback 300\n"),
                "= 300\n= rn2k2r/8/8/8/8/8/8/RN2K2R w KQkq - 300 999\n= 0\n");
    }
}
