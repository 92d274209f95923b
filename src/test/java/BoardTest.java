import java.util.ArrayList;
import java.util.List;
import java.util.TreeSet;

/**
 * Promise 3, the edges of the board, on all squares: no man goes or attacks round them, pawns go two steps from their
 * first rank alone and become other men on the last one alone, only next pawns take in passing, and castling asks for
 * just those squares that the document names.
 */
public final class BoardTest {
    private static final Checks CHECKS = new Checks();
    private static final String KINDS = "PNBRQKpnbrqk";

    public static void main(String[] args) {
        attacks();
        goings();
        pawnsAlone();
        pawnsTake();
        pawnsPass();
        castlingRights();
        castlingBlocked();
        castlingAttacked();
        castlingBehindMoves();
        CHECKS.finish("BoardTest");
    }

    /** Many talks at once, as long as they fit: each begins with set or new, so none depends on another. */
    private static final class Talks {
        private final List<String> texts = new ArrayList<>();
        private final List<String> dues = new ArrayList<>();
        private int length;

        void add(String text, String due) {
            texts.add(text);
            dues.add(due);
            length += text.length() + 20 * due.length();
            if (length > 8000) {
                finish();
            }
        }

        void finish() {
            String all = String.join("", texts);
            if (!new House().ask(all).equals(String.join("", dues))) {
                for (int i = 0; i < texts.size(); i++) {
                    CHECKS.same(texts.get(i), new House().ask(texts.get(i)), dues.get(i));
                }
            } else {
                for (String text : texts) {
                    CHECKS.same(text, true, true);
                }
            }
            texts.clear();
            dues.clear();
            length = 0;
        }
    }

    private static char[] emptyBoard() {
        return " ".repeat(64).toCharArray();
    }

    private static String fen(char[] board, String rest) {
        StringBuilder fen = new StringBuilder();
        for (int rank = 7; rank >= 0; rank--) {
            fen.append(new String(board, rank * 8, 8)).append(rank > 0 ? "/" : " ");
        }
        String men = fen.toString().substring(0, 71);
        for (int empty = 8; empty > 0; empty--) {
            men = men.replace(" ".repeat(empty), String.valueOf(empty));
        }
        return men + " " + rest;
    }

    private static String name(int square) {
        return "" + (char) ('a' + square % 8) + (char) ('1' + square / 8);
    }

    /** Whether a man attacks a square, by files and ranks alone. */
    private static boolean attacks(char[] board, int from, int to) {
        int along = to % 8 - from % 8;
        int up = to / 8 - from / 8;
        int far = Math.max(Math.abs(along), Math.abs(up));
        switch (board[from]) {
            case 'P': return up == 1 && Math.abs(along) == 1;
            case 'p': return up == -1 && Math.abs(along) == 1;
            case 'N': case 'n': return Math.abs(along * up) == 2;
            case 'K': case 'k': return far == 1;
            default: break;
        }
        boolean straight = along == 0 || up == 0;
        boolean slanting = Math.abs(along) == Math.abs(up);
        char kind = Character.toUpperCase(board[from]);
        if (from == to || !(straight && kind != 'B') && !(slanting && kind != 'R')) {
            return false;
        }
        for (int i = 1; i < far; i++) {
            if (board[from + i * (along / far + up / far * 8)] != ' ') {
                return false;
            }
        }
        return true;
    }

    /** Every man against a king on every square: it is fault 4 of a text if that is attacked and not to move. */
    private static void attacks() {
        Talks talks = new Talks();
        for (char man : KINDS.toCharArray()) {
            boolean white = Character.isUpperCase(man);
            char own = white ? 'K' : 'k';
            char other = white ? 'k' : 'K';
            for (int from = 0; from < 64; from++) {
                for (int to = 0; to < 64; to++) {
                    if (from == to || (man == 'P' || man == 'p') && (from < 8 || from > 55)) {
                        continue;
                    }
                    char[] board = emptyBoard();
                    board[from] = man;
                    board[to] = other;
                    int king = from;
                    for (int at = 0; man != own && king == from; at++) {
                        king = at != from && at != to ? at : from;
                    }
                    board[king] = own;
                    boolean due = attacks(board, from, to) || attacks(board, king, to);
                    talks.add("set " + fen(board, (white ? "w" : "b") + " - - 0 1\n"), due ? "? 7 4\n" : "=\n");
                }
            }
        }
        talks.finish();
    }

    private static boolean safe(char[] board, int king, boolean byWhite) {
        for (int from = 0; from < 64; from++) {
            if (board[from] != ' ' && Character.isUpperCase(board[from]) == byWhite && attacks(board, from, king)) {
                return false;
            }
        }
        return true;
    }

    /** Every man but pawns on every square: all that it attacks, and nothing else, in order. */
    private static void goings() {
        Talks talks = new Talks();
        for (char man : "NBRQK".toCharArray()) {
            for (int from = 0; from < 64; from++) {
                char[] board = emptyBoard();
                board[from] = man;
                int own = man == 'K' ? from : from < 8 ? 63 - from : 7 - from % 8;
                board[own] = 'K';
                int other = 0;
                board[other] = board[other] == ' ' ? 'k' : board[other];
                while (board[other] != 'k' || !safe(board, other, true)) {
                    board[other] = board[other] == 'k' ? ' ' : board[other];
                    other++;
                    board[other] = board[other] == ' ' ? 'k' : board[other];
                }
                talks.add("set " + fen(board, "w - - 0 1\nways 1\n"), "=\n= " + ways(board) + "\n");
            }
        }
        talks.finish();
    }

    private static int ways(char[] board) {
        int ways = 0;
        for (int from = 0; from < 64; from++) {
            for (int to = 0; to < 64; to++) {
                if (Character.isUpperCase(board[from]) && board[to] == ' ' && attacks(board, from, to)) {
                    char[] behind = board.clone();
                    behind[to] = behind[from];
                    behind[from] = ' ';
                    ways += safe(behind, new String(behind).indexOf('K'), false) ? 1 : 0;
                }
            }
        }
        return ways;
    }

    /** A pawn of either side on each square where one may stand: one step, two from the first rank, four on the last. */
    private static void pawnsAlone() {
        for (int square = 8; square < 56; square++) {
            for (boolean white : new boolean[] {true, false}) {
                char[] board = emptyBoard();
                board[square] = white ? 'P' : 'p';
                int file = square % 8;
                int rank = square / 8;
                int far = file < 4 ? 7 : 0;
                // The kings stand on the far edge, from where they don't meet the pawn.
                int king = far + 8 * (white ? 0 : 7);
                int other = far + 8 * (white ? 7 : 0);
                board[king] = white ? 'K' : 'k';
                board[other] = white ? 'k' : 'K';
                int forward = white ? 8 : -8;
                boolean last = rank == (white ? 6 : 1);
                String to = name(square + forward);
                TreeSet<String> signs = new TreeSet<>();
                if (last) {
                    signs.add(to + "=N");
                    signs.add(to + "=B");
                    boolean check = clear(board, square + forward, other);
                    signs.add(to + "=R" + (check ? "+" : ""));
                    signs.add(to + "=Q" + (check ? "+" : ""));
                } else {
                    signs.add(to);
                    if (rank == (white ? 1 : 6)) {
                        signs.add(name(square + 2 * forward));
                    }
                }
                String fen = fen(board, (white ? "w" : "b") + " - - 0 1");
                TreeSet<String> got = new TreeSet<>();
                for (String sign : new House().ask("set " + fen + "\nmoves\n").split("[ \n]+")) {
                    if (sign.length() > 1 && sign.charAt(0) >= 'a' && sign.charAt(0) <= 'h') {
                        got.add(sign);
                    }
                }
                CHECKS.same("moves of the pawn in " + fen, got, signs);
            }
        }
    }

    private static boolean clear(char[] board, int from, int to) {
        char[] queened = board.clone();
        queened[from] = 'Q';
        return attacks(queened, from, to);
    }

    /** A pawn and one of the other side on any two squares: it takes just what is a step forwards and to one side. */
    private static void pawnsTake() {
        Talks talks = new Talks();
        for (int from = 8; from < 56; from++) {
            for (int to = 8; to < 56; to++) {
                for (boolean white : new boolean[] {true, false}) {
                    char[] board = emptyBoard();
                    board[from] = white ? 'P' : 'p';
                    board[to] = white ? 'p' : 'P';
                    if (from == to) {
                        continue;
                    }
                    int king = white ? 0 : 63;
                    int other = white ? 63 : 0;
                    board[king] = white ? 'K' : 'k';
                    board[other] = white ? 'k' : 'K';
                    String move = (char) ('a' + from % 8) + "x" + name(to);
                    String fen = fen(board, (white ? "w" : "b") + " - - 0 1");
                    // A position in which the other side is in check can't be set.
                    if (safe(board, other, white)) {
                        talks.add("set " + fen + "\nplay " + move + "\n", "=\n" + played(attacks(board, from, to)));
                    }
                }
            }
        }
        talks.finish();
    }

    /** A pawn that goes two steps past one of the other side on any file: the passed square is told beside it alone. */
    private static void pawnsPass() {
        Talks talks = new Talks();
        for (int file = 0; file < 8; file++) {
            for (int other = 0; other < 8; other++) {
                for (int rank = 1; rank < 7; rank++) {
                    char[] board = emptyBoard();
                    board[4] = 'K';
                    board[60] = 'k';
                    board[8 + file] = 'P';
                    int square = 8 * rank + other;
                    boolean inTheWay = other == file && rank < 4;
                    boolean checks = square == 11 || square == 13;
                    if (inTheWay || checks) {
                        continue;
                    }
                    board[square] = 'p';
                    String fen = fen(board, "w - - 3 9");
                    char[] behind = board.clone();
                    behind[8 + file] = ' ';
                    behind[24 + file] = 'P';
                    boolean beside = rank == 3 && Math.abs(other - file) == 1;
                    String move = name(24 + file);
                    String due = fen(behind, "b - " + (beside ? name(16 + file) : "-") + " 0 9");
                    pass(talks, fen, move, "Kf8", due);
                    pass(talks, turned(fen), turnedSquare(move), "Kf1", turned(due).replaceAll("9$", "10"));
                    String told = fen(behind, "b - " + name(16 + file) + " 0 9");
                    setPassed(talks, told, "Kf8", beside);
                    setPassed(talks, turned(told), "Kf1", beside);
                }
            }
        }
        talks.finish();
    }

    /** Plays a pawn's two steps and another move behind it, which is taken back: the passed square is there again. */
    private static void pass(Talks talks, String fen, String move, String next, String due) {
        talks.add("set " + fen + "\nplay " + move + "\nfen\nplay " + next + "\nback 1\nfen\n",
                "=\n= 1\n= " + due + "\n= 2\n= 1\n= " + due + "\n");
    }

    /** A position that is set with a passed square has it again when a move is taken back. */
    private static void setPassed(Talks talks, String fen, String move, boolean legal) {
        if (legal) {
            talks.add("set " + fen + "\nplay " + move + "\nback 1\nfen\n", "=\n= 1\n= 0\n= " + fen + "\n");
        } else {
            talks.add("set " + fen + "\n", "? 7 6\n");
        }
    }

    /** The text of a position with ranks and sides exchanged. */
    private static String turned(String fen) {
        String[] fields = fen.split(" ");
        String[] ranks = fields[0].split("/");
        StringBuilder men = new StringBuilder();
        for (int i = 7; i >= 0; i--) {
            for (char c : ranks[i].toCharArray()) {
                men.append(Character.isUpperCase(c) ? Character.toLowerCase(c) : Character.toUpperCase(c));
            }
            men.append(i > 0 ? "/" : "");
        }
        return men + " " + (fields[1].equals("w") ? "b" : "w") + " - "
                + (fields[3].equals("-") ? "-" : turnedSquare(fields[3])) + " " + fields[4] + " " + fields[5];
    }

    private static String turnedSquare(String square) {
        return square.charAt(0) + "" + (char) ('1' + '8' - square.charAt(1));
    }

    private static String played(boolean legal) {
        return legal ? "= 1\n" : "? 2 1\n";
    }

    /** Short and long castling of a side, each tried from the same position. */
    private static void tryCastling(String fen, boolean shortOne, boolean longOne) {
        castle(fen, "O-O", shortOne);
        castle(fen, "O-O-O", longOne);
    }

    /** Castles, if it may be, and takes it back. */
    private static void castle(String fen, String sign, boolean legal) {
        House house = new House();
        CHECKS.same(fen, house.ask("set " + fen + "\n"), "=\n");
        CHECKS.same(fen + ": " + sign, house.ask("play " + sign + "\n"), played(legal));
        CHECKS.same(fen + ": behind " + sign, house.ask("go 0\nfen\n"), "= 0\n= " + fen + "\n");
    }

    private static void castlingRights() {
        for (int rights = 0; rights < 16; rights++) {
            StringBuilder signs = new StringBuilder();
            for (int i = 0; i < 4; i++) {
                signs.append((rights >> i & 1) != 0 ? "KQkq".substring(i, i + 1) : "");
            }
            String told = rights == 0 ? "-" : signs.toString();
            String men = "r3k2r/8/8/8/8/8/8/R3K2R ";
            tryCastling(men + "w " + told + " - 0 1", (rights & 1) != 0, (rights & 2) != 0);
            tryCastling(men + "b " + told + " - 0 1", (rights & 4) != 0, (rights & 8) != 0);
        }
    }

    /** A man of either side on each square between king and rook. */
    private static void castlingBlocked() {
        for (int file = 0; file < 8; file++) {
            for (String man : new String[] {"N", "b"}) {
                char[] board = "R   K  R".toCharArray();
                if (board[file] != ' ') {
                    continue;
                }
                board[file] = man.charAt(0);
                char[] whole = emptyBoard();
                System.arraycopy(board, 0, whole, 0, 8);
                whole[60] = 'k';
                String fen = fen(whole, "w KQ - 0 1");
                tryCastling(fen, file < 4, file > 4);
                tryCastling(turned(fen).replace(" b - - ", " b kq - "), file < 4, file > 4);
            }
        }
    }

    /** A rook of the other side on each file: the king is in check, passes, or comes to an attacked square; or not. */
    private static void castlingAttacked() {
        for (int file = 0; file < 8; file++) {
            char[] board = emptyBoard();
            board[0] = 'R';
            board[4] = 'K';
            board[7] = 'R';
            board[32 + file] = 'r';
            board[49] = 'k';
            String fen = fen(board, "w KQ - 0 1");
            tryCastling(fen, file < 4 || file > 6, file < 2 || file > 4);
            tryCastling(turned(fen).replace(" b - - ", " b kq - "), file < 4 || file > 6, file < 2 || file > 4);
        }
    }

    /** Behind each move what is left of the rights. */
    private static void castlingBehindMoves() {
        String men = "r3k2r/p6p/8/8/8/8/P6P/R3K2R";
        String[][] white = {{"Rb1", "Kkq"}, {"Rd1", "Kkq"}, {"Rg1", "Qkq"}, {"Rf1", "Qkq"}, {"Ke2", "kq"}, {"Kd1", "kq"},
            {"O-O", "kq"}, {"O-O-O", "kq"}, {"a3", "KQkq"}, {"h4", "KQkq"}};
        String[][] black = {{"Rb8", "KQk"}, {"Rd8", "KQk"}, {"Rg8", "KQq"}, {"Rf8", "KQq"}, {"Ke7", "KQ"}, {"Kd8", "KQ"},
            {"O-O", "KQ"}, {"O-O-O", "KQ"}, {"a6", "KQkq"}, {"h5", "KQkq"}};
        for (String[] each : white) {
            CHECKS.same("rights behind " + each[0], rightsBehind(men + " w KQkq - 0 1", each[0]), each[1]);
        }
        for (String[] each : black) {
            CHECKS.same("rights behind " + each[0], rightsBehind(men + " b KQkq - 0 1", each[0]), each[1]);
        }
        String open = "r3k2r/8/8/8/8/8/8/R3K2R";
        CHECKS.same("a8 taken from a1", rightsBehind(open + " w KQkq - 0 1", "Rxa8+"), "Kk");
        CHECKS.same("h8 taken from h1", rightsBehind(open + " w KQkq - 0 1", "Rxh8+"), "Qq");
        CHECKS.same("a1 taken from a8", rightsBehind(open + " b KQkq - 0 1", "Rxa1+"), "Kk");
        CHECKS.same("h1 taken from h8", rightsBehind(open + " b KQkq - 0 1", "Rxh1+"), "Qq");
        CHECKS.same("a1 taken by another man", rightsBehind("4k3/8/8/8/3b4/8/8/R3K2R b KQ - 0 1", "Bxa1"), "K");
        CHECKS.same("h8 taken by a pawn", rightsBehind("r3k2r/6P1/8/8/8/8/8/4K3 w kq - 0 1", "gxh8=Q+"), "q");
        CHECKS.same("another rook moves", rightsBehind("4k3/8/8/R7/8/8/8/R3K2R w KQ - 0 1", "Rb5"), "KQ");
        CHECKS.same("another rook is taken", rightsBehind("r3k2r/8/r7/8/8/3B4/8/4K3 w kq - 0 1", "Bxa6"), "kq");
        CHECKS.same("a rook that comes back brings none",
                rightsBehind("4k3/p7/8/8/8/8/8/R3K2R w KQ - 0 1", "Ra2 a6 Ra1 a5"), "K");
        CHECKS.same("a king that comes back brings none",
                rightsBehind("4k3/p7/8/8/8/8/8/R3K2R w KQ - 0 1", "Ke2 a6 Ke1 a5"), "-");
    }

    private static String rightsBehind(String fen, String moves) {
        return new House().ask("set " + fen + "\nplay " + moves + "\nfen\n").split("\n")[2].split(" ")[3];
    }
}
