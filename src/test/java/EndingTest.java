import java.util.Random;

/** Promise 3, endings: distances count down to mate by best moves, and no distance is beyond the known greatest one. */
public final class EndingTest {
    private static final Checks CHECKS = new Checks();

    public static void main(String[] args) {
        House house = new House();
        Random random = new Random(64);
        for (int i = 0; i < 1500; i++) {
            follow(house, random);
        }
        // The longest ways to mate that are known: queens 10, rooks 16, pawns 28 moves.
        CHECKS.same("a queen's longest way", distance(house, "8/8/8/5k2/8/8/8/K6Q w - - 0 1") <= 19, true);
        CHECKS.same("a pawn's longest way", longestPawn(house), 55);
        CHECKS.same("a rook's longest way", longestRook(house), 31);
        CHECKS.finish("EndingTest");
    }

    private static int distance(House house, String fen) {
        String answer = house.ask("set " + fen + "\nends\n");
        return answer.startsWith("=\n= -") || !answer.startsWith("=\n=") ? -1
                : Integer.parseInt(answer.substring(4).split("[ \n]")[0]);
    }

    /** All of black's king squares with a rook and a king that stand as badly as they can. */
    private static int longestRook(House house) {
        int longest = 0;
        for (int white = 0; white < 64; white++) {
            for (int black = 0; black < 64; black++) {
                longest = Math.max(longest, distance(house, fen(white, 9, black, 'R', 'w')));
            }
        }
        return longest;
    }

    private static int longestPawn(House house) {
        int longest = 0;
        for (int white = 0; white < 64; white++) {
            for (int black = 0; black < 64; black++) {
                longest = Math.max(longest, distance(house, fen(white, 10, black, 'P', 'w')));
                longest = Math.max(longest, distance(house, fen(white, 8, black, 'P', 'w')));
                longest = Math.max(longest, distance(house, fen(white, 9, black, 'P', 'w')));
                longest = Math.max(longest, distance(house, fen(white, 11, black, 'P', 'w')));
            }
        }
        return longest;
    }

    private static String fen(int white, int man, int black, char letter, char mover) {
        StringBuilder fen = new StringBuilder();
        for (int rank = 7; rank >= 0; rank--) {
            int empty = 0;
            for (int file = 0; file < 8; file++) {
                int square = rank * 8 + file;
                char c = square == white ? 'K' : square == man ? letter : square == black ? 'k' : ' ';
                empty += c == ' ' ? 1 : 0;
                if (c != ' ' && empty > 0) {
                    fen.append(empty);
                    empty = 0;
                }
                fen.append(c == ' ' ? "" : String.valueOf(c));
            }
            fen.append(empty > 0 ? String.valueOf(empty) : "").append(rank > 0 ? "/" : "");
        }
        return fen + " " + mover + " - - 0 1";
    }

    private static void follow(House house, Random random) {
        char letter = "PNBRQRQPP".charAt(random.nextInt(9));
        if (random.nextBoolean()) {
            letter = Character.toLowerCase(letter);
        }
        char mover = random.nextBoolean() ? 'w' : 'b';
        String fen = fen(random.nextInt(64), random.nextInt(64), random.nextInt(64), letter, mover);
        String answer = house.ask("set " + fen + "\nends\n");
        if (!answer.startsWith("=\n= ")) {
            return;
        }
        String[] words = answer.substring(4).trim().split(" ");
        if (words[0].equals("-")) {
            drawn(house, fen, words, Character.isUpperCase(letter) == (mover == 'w'));
            return;
        }
        CHECKS.same(fen + ": only pawns, rooks and queens mate", "NBnb".indexOf(letter), -1);
        int left = Integer.parseInt(words[0]);
        for (int i = left; i > 0; i--) {
            String[] next = house.ask("play " + words[1] + "\nends\n").split("\n");
            CHECKS.same(fen + " with " + i + " left", next[1].startsWith("= " + (i - 1)), true);
            words = next[1].substring(2).split(" ");
        }
        CHECKS.same(fen + ": mate at the end", house.ask("state\n").substring(0, 3), "= 1");
        CHECKS.same(fen + ": no move is told there", words.length, 1);
    }

    /** Behind every move of the stronger side, and behind the told one of the other, it stays drawn. */
    private static void drawn(House house, String fen, String[] words, boolean strong) {
        String[] moves = house.ask("moves\n").trim().split(" ");
        CHECKS.same(fen + ": a move is told if there is one", words.length, moves.length > 2 ? 2 : 1);
        for (int i = 2; i < moves.length; i++) {
            if (strong || moves[i].equals(words[1])) {
                String[] next = house.ask("play " + moves[i] + "\nends\nback 1\n").split("\n");
                CHECKS.same(fen + " stays drawn", next[1].startsWith("= -") || next[1].equals("? 5"), true);
            }
        }
    }
}
