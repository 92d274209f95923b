import java.util.ArrayList;
import java.util.HashMap;
import java.util.List;
import java.util.Map;

/**
 * Promise 3, values: a plain look at all moves, which knows the house only by its commands moves, fen, state and sight,
 * must come to what think and test answer.
 */
public final class LookTest {
    private static final Checks CHECKS = new Checks();
    private static final String[] STARTS = {
        "new",
        "set r3k2r/8/8/3pP3/8/8/8/R3K2R w KQkq d6 0 1",
        "set 8/1P2k3/8/8/4pP2/8/6K1/8 b - f3 0 12",
        "set 4k3/P6P/8/8/8/8/p6p/4K3 w - - 98 5",
        "set r1b1k3/pp1p4/8/3qP3/2BN4/8/PP3P2/4K2R w K - 3 20",
        "set 6k1/5ppp/8/8/8/8/5PPP/R5K1 w - - 97 30",
        "set 6k1/5ppp/8/8/1r6/8/5PPP/R5K1 b - - 0 30\nplay Rb8 Ra2 Rb4 Ra1 Rb8 Ra2 Rb4 Ra1 Rb8",
        "set 7k/8/5KQ1/8/8/8/8/8 w - - 0 1",
        "set 8/8/8/8/8/5k2/5p2/5K2 b - - 0 1",
        "set 8/8/8/2b5/3k4/2P5/8/K7 b - - 0 1",
        "set k7/2Q5/8/8/8/8/1q6/3K4 b - - 0 1",
        "set n1n5/PPPk4/8/8/8/8/4Kppp/5N1N b - - 0 1",
        "set 3r2k1/3r4/2n5/3p4/8/2N5/3R4/3R2K1 w - - 0 1",
        "set 3r2k1/3r4/2p5/3p4/8/2N5/3R4/3R2K1 w - - 0 1",
    };

    private static final String[] SMALL = {
        "set 8/8/8/8/8/5k2/5p2/5K2 b - - 0 1",
        "set 8/8/8/2b5/3k4/2P5/8/K7 b - - 0 1",
        "set 8/8/8/8/8/1k6/1p6/1K5R w - - 97 70",
    };

    /** What was seen already, by the lines that lead there. */
    private static final Map<String, View> SEEN = new HashMap<>();
    private static String start;

    public static void main(String[] args) {
        for (String each : STARTS) {
            start = each;
            CHECKS.same(start, new House().ask(start + "\n").charAt(0), '=');
            look(1, false);
            look(1, true);
            look(2, false);
        }
        for (String each : SMALL) {
            start = each;
            look(2, true);
            look(3, false);
        }
        CHECKS.finish("LookTest");
    }

    private static void look(int deep, boolean calm) {
        String line = "";
        String values = "";
        List<String> path = new ArrayList<>();
        for (int left = deep; left > 0 && (path.isEmpty() || byRule(view(path), path.size()) == null); left--) {
            int best = Integer.MIN_VALUE;
            String move = "";
            for (String each : view(path).moves) {
                int value = -value(with(path, each), left - 1, calm);
                if (value > best) {
                    best = value;
                    move = each;
                }
                if (left == deep && !calm) {
                    test(path, each, deep, value);
                }
            }
            values = values.isEmpty() ? "= " + best : values;
            line += " " + move;
            path = with(path, move);
        }
        String asked = "think " + deep + (calm ? " calm" : "");
        String answer = new House().ask(start + "\n" + asked + "\n");
        CHECKS.same(start + ": " + asked, lastLine(answer), values + line);
    }

    private static void test(List<String> path, String move, int deep, int value) {
        String asked = start + "\ntest " + move + " " + deep + " " + value + "\ntest " + move + " " + deep + " "
                + (value + 1) + "\n";
        String[] answers = new House().ask(asked).split("\n");
        CHECKS.same(asked, answers[answers.length - 2] + answers[answers.length - 1], "= 1= 0");
    }

    private static int value(List<String> path, int deep, boolean calm) {
        View view = view(path);
        Integer rule = byRule(view, path.size());
        if (rule != null) {
            return rule;
        }
        if (deep == 0) {
            return calm ? calmValue(path, 4) : view.sight;
        }
        int best = Integer.MIN_VALUE;
        for (String move : view.moves) {
            best = Math.max(best, -value(with(path, move), deep - 1, calm));
        }
        return best;
    }

    private static Integer byRule(View view, int n) {
        if (view.moves.isEmpty()) {
            return view.state == 1 ? n - 30000 : 0;
        }
        return view.state == 3 || view.clock >= 100 || view.occurrence >= 3 ? 0 : null;
    }

    private static int calmValue(List<String> path, int k) {
        View view = view(path);
        int best = view.sight;
        for (String move : k > 0 ? view.moves : List.<String>of()) {
            if (move.contains("x") || move.contains("=")) {
                List<String> behind = with(path, move);
                View there = view(behind);
                int value = there.moves.isEmpty() ? there.state == 1 ? behind.size() - 30000 : 0
                        : there.state == 3 ? 0 : calmValue(behind, k - 1);
                best = Math.max(best, -value);
            }
        }
        return best;
    }

    private static List<String> with(List<String> path, String move) {
        List<String> longer = new ArrayList<>(path);
        longer.add(move);
        return longer;
    }

    private static String lastLine(String answer) {
        return answer.substring(answer.lastIndexOf('\n', answer.length() - 2) + 1, answer.length() - 1);
    }

    private static View view(List<String> path) {
        String played = path.isEmpty() ? "" : "play " + String.join(" ", path) + "\n";
        return SEEN.computeIfAbsent(start + "\n" + played, LookTest::viewBehind);
    }

    private static View viewBehind(String talk) {
        House house = new House();
        house.ask(talk);
        String[] lines = house.ask("moves\nfen\nstate\nsight\n").split("\n");
        int last = lines.length - 1;
        View view = new View();
        String[] moves = lines[last - 3].split(" ");
        for (int i = 2; i < moves.length; i++) {
            view.moves.add(moves[i]);
        }
        view.clock = Integer.parseInt(lines[last - 2].split(" ")[5]);
        view.state = Integer.parseInt(lines[last - 1].split(" ")[1]);
        view.occurrence = Integer.parseInt(lines[last - 1].split(" ")[2]);
        view.sight = Integer.parseInt(lines[last].split(" ")[1]);
        return view;
    }

    /** What the house says of a position. */
    private static final class View {
        final List<String> moves = new ArrayList<>();
        int clock;
        int state;
        int occurrence;
        int sight;
    }
}
