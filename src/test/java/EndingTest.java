import java.util.Random;

/** Promise 3, endings: distances count down to mate by best moves, and the longest ways are those that are known. */
public final class EndingTest {
    private static final Checks CHECKS = new Checks();
    private static final House HOUSE = new House();
    /** The longest ways to mate with a queen, a rook and a pawn: 10, 16 and 28 moves, and a move of the other side. */
    private static final String[] LONGEST = {
        "8/8/8/5k2/8/8/1Q6/K7 w - - 0 1=19 Kb1", "8/8/8/8/4k3/8/1Q6/K7 b - - 0 1=20 Kf5",
        "k7/1q6/8/8/5K2/8/8/8 b - - 0 1=19 Kb8", "k7/1q6/8/4K3/8/8/8/8 w - - 0 1=20 Kf4",
        "8/8/8/8/8/2k5/1R6/K7 w - - 0 1=31 Kb1", "8/8/8/8/8/8/1Rk5/K7 b - - 0 1=32 Kc3",
        "k7/1r6/2K5/8/8/8/8/8 b - - 0 1=31 Kb8", "k7/1rK5/8/8/8/8/8/8 w - - 0 1=32 Kc6",
        "8/8/8/1k6/8/8/K5P1/8 w - - 0 1=55 Kb3", "8/8/8/k7/8/K7/6P1/8 b - - 0 1=56 Kb5",
        "8/k5p1/8/8/1K6/8/8/8 b - - 0 1=55 Kb6", "8/6p1/k7/8/K7/8/8/8 w - - 0 1=56 Kb4",
    };

    public static void main(String[] args) {
        for (String each : LONGEST) {
            String[] parts = each.split("=");
            CHECKS.same(parts[0], setUp(parts[0]), "= " + parts[1]);
            follow(parts[0], parts[1].split(" "));
        }
        Random random = new Random(64);
        for (int i = 0; i < 400; i++) {
            any(random);
        }
        CHECKS.finish("EndingTest");
    }

    /** What ends answers in a position; "" if it is none. */
    private static String setUp(String fen) {
        HOUSE.forget();
        String[] answers = HOUSE.ask("new\nset " + fen + "\nends\n").split("\n");
        return answers[1].equals("=") ? answers[2] : "";
    }

    private static String fen(int white, int man, int black, char letter, char mover) {
        StringBuilder fen = new StringBuilder();
        for (int rank = 7; rank >= 0; rank--) {
            int empty = 0;
            for (int file = 0; file < 8; file++) {
                int square = rank * 8 + file;
                char c = square == white ? 'K' : square == man ? letter : square == black ? 'k' : ' ';
                empty += c == ' ' ? 1 : 0;
                if (c != ' ' && empty > 0) {
                    fen.append(empty);
                    empty = 0;
                }
                fen.append(c == ' ' ? "" : String.valueOf(c));
            }
            fen.append(empty > 0 ? String.valueOf(empty) : "").append(rank > 0 ? "/" : "");
        }
        return fen + " " + mover + " - - 0 1";
    }

    private static void any(Random random) {
        char letter = "PNBRQRQPP".charAt(random.nextInt(9));
        if (random.nextBoolean()) {
            letter = Character.toLowerCase(letter);
        }
        char mover = random.nextBoolean() ? 'w' : 'b';
        String fen = fen(random.nextInt(64), random.nextInt(64), random.nextInt(64), letter, mover);
        String answer = setUp(fen);
        if (!answer.startsWith("=")) {
            return;
        }
        String[] words = answer.substring(2).split(" ");
        if (words[0].equals("-")) {
            drawn(fen, words, Character.isUpperCase(letter) == (mover == 'w'));
            return;
        }
        CHECKS.same(fen + ": only pawns, rooks and queens mate", "NBnb".indexOf(letter), -1);
        follow(fen, words);
    }

    /** Goes down to mate by the moves that are told. */
    private static void follow(String fen, String[] told) {
        String[] words = told;
        int left = Integer.parseInt(words[0]);
        for (int i = left; i > 0; i--) {
            String[] next = HOUSE.ask("play " + words[1] + "\nends\n").split("\n");
            words = next[1].substring(2).split(" ");
            CHECKS.same(fen + " with " + i + " left", words[0], String.valueOf(i - 1));
        }
        CHECKS.same(fen + ": mate at the end", HOUSE.ask("state\n").substring(0, 3), "= 1");
        CHECKS.same(fen + ": no move is told there", words.length, 1);
    }

    /** Behind every move of the stronger side, and behind the told one of the other, it stays drawn. */
    private static void drawn(String fen, String[] words, boolean strong) {
        String[] moves = HOUSE.ask("moves\n").trim().split(" ");
        CHECKS.same(fen + ": a move is told if there is one", words.length, moves.length > 2 ? 2 : 1);
        for (int i = 2; i < moves.length; i++) {
            if (strong || moves[i].equals(words[1])) {
                String[] next = HOUSE.ask("play " + moves[i] + "\nends\nback 1\n").split("\n");
                CHECKS.same(fen + " stays drawn", next[1].startsWith("= -") || next[1].equals("? 5"), true);
            }
        }
    }
}
