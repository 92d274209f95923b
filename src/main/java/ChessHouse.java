import java.util.Arrays;

/**
 * A house of chess: lines of text come in by {@link #feed} and are done by {@link #end}, lines of text go out by
 * {@link #out}. One game at a time is held with all its lines; all rows are made with the object and used again.
 */
public final class ChessHouse {
    private static final int ROOM = 65536;
    private static final int LINE_END = 10;
    private static final int WORK = 30000000;
    private static final int CALM_WORK = 400000000;

    private final byte[] tape = new byte[ROOM + 1];
    private final Bytes answers = new Bytes(ROOM);
    private final Words words = new Words();
    private final Signs signs = new Signs();
    private final GameReader reader = new GameReader();
    private final GameWriter writer = new GameWriter();
    private final Search search = new Search();
    private final Problems problems = new Problems();
    private final Endings endings = new Endings();
    private final int[] list = new int[Board.MOST];
    private Game game = new Game();
    private Game spare = new Game();
    private int fed;
    private int next;
    private int faults;

    public ChessHouse() {
        fed = 0;
    }

    public void feed(int a, int b, int c, int d, int e) throws UnsupportedOperationException {
        if (fed + 20 > ROOM) {
            throw new UnsupportedOperationException();
        }
        takeFour(a);
        takeFour(b);
        takeFour(c);
        takeFour(d);
        takeFour(e);
    }

    public int end(int n) throws IllegalArgumentException {
        if (n < 0 || n > fed) {
            throw new IllegalArgumentException();
        }
        answers.clear();
        faults = 0;
        // The byte behind the text is given up with the tape; a line end there closes the last line like all others.
        tape[n] = LINE_END;
        next = 0;
        for (int lines = 0; lines < n && next < n; lines++) {
            int begin = next;
            int stop = lineStop(begin);
            next = stop + 1;
            if (stop > begin) {
                perform(words.take(tape, begin, stop), n);
            }
        }
        fed = 0;
        return faults;
    }

    public int size() {
        return answers.length;
    }

    public int out(int i) throws IndexOutOfBoundsException {
        if (i < 0 || i >= answers.length) {
            throw new IndexOutOfBoundsException();
        }
        return answers.data[i] & 255;
    }

    private void takeFour(int number) {
        for (int shift = 24; shift >= 0; shift -= 8) {
            tape[fed] = (byte) (number >> shift);
            fed++;
        }
    }

    private int lineStop(int begin) {
        int stop = begin;
        while (stop < ROOM && tape[stop] != LINE_END) {
            stop++;
        }
        return stop;
    }

    private void perform(Command command, int n) {
        switch (command) {
            case NEW: game.clear(); answerNothing(); break;
            case SET: setUp(); break;
            case GAME: {
                int begin = next;
                int stop = gameStop(n);
                answerGame(reader.read(spare, tape, begin, stop));
                break;
            }
            case WRITE: writer.answer(game, answers); break;
            case FEN: answerFen(); break;
            case MOVES: answerMoves(); break;
            case OTHERS: answerOthers(); break;
            case PLAY: play(); break;
            case BACK: back(); break;
            case GO: go(); break;
            case MARK: mark(); break;
            case SAY: say(); break;
            case LEAD: lead(); break;
            case END: endWith(); break;
            case TAG: tag(); break;
            case STATE: answerState(); break;
            case WAYS: answerWays(); break;
            case SIGHT: answerNumber(game.board.sight()); break;
            case THINK: think(); break;
            case TEST: test(); break;
            case TABLE: table(); break;
            case KEYS: answerKeys(); break;
            case LEAST: answerLeast(); break;
            case REFUTE: answerRefuter(); break;
            case HELP: answerHelp(); break;
            case LINE: answerLine(); break;
            case ENDS: answerEnds(); break;
            default: fault(1); break;
        }
    }

    // ---- answers ----

    private void answerNothing() {
        answers.add('=');
        answers.add(LINE_END);
    }

    private void answerNumber(long number) {
        answers.add('=');
        tell(number);
        answers.add(LINE_END);
    }

    private void tell(long number) {
        answers.add(' ');
        answers.number(number);
    }

    private void tellSigns(int move) {
        answers.add(' ');
        signs.write(game.board, move, answers);
    }

    private void fault(int kind) {
        faults++;
        answers.add('?');
        tell(kind);
        answers.add(LINE_END);
    }

    private void fault(int kind, int what) {
        faults++;
        answers.add('?');
        tell(kind);
        tell(what);
        answers.add(LINE_END);
    }

    private void faultOfSigns(int read) {
        fault(read == Signs.NEARLY ? 3 : 2);
    }

    // ---- the game ----

    private void swapGames() {
        Game old = game;
        game = spare;
        spare = old;
    }

    private void setUp() {
        int text = words.behindSpaces(1);
        if (text < 0) {
            fault(1);
            return;
        }
        spare.clear();
        int told = spare.board.readText(tape, text, words.stop);
        if (told != 0) {
            fault(7, told);
            return;
        }
        spare.setTag(Game.FEN, 0, 3, tape, text, words.stop - text);
        swapGames();
        answerNothing();
    }

    /** Where the text of a game that begins at the next line stops; the next line is then the one behind it. */
    private int gameStop(int n) {
        int line = next;
        for (int lines = 0; lines < n && line < n; lines++) {
            int stop = lineStop(line);
            next = stop + 1;
            if (stop == line + 1 && tape[line] == '.') {
                return line;
            }
            line = next;
        }
        return line;
    }

    private void answerGame(int told) {
        if (told == 0) {
            swapGames();
            answerNumber(game.nodes);
            return;
        }
        faults++;
        answers.add('?');
        tell(6);
        tell(told);
        tell(reader.place);
        answers.add(LINE_END);
    }

    private void answerFen() {
        answers.add('=');
        answers.add(' ');
        game.board.writeText(answers);
        answers.add(LINE_END);
    }

    private void answerMoves() {
        int count = game.board.legal(list, 0, Board.MOST);
        game.board.sort(list, 0, count);
        answerList(count);
    }

    private void answerList(int count) {
        answers.add('=');
        tell(count);
        for (int i = 0; i < count; i++) {
            answers.add(' ');
            signs.write(game.board, list[i], answers);
        }
        answers.add(LINE_END);
    }

    private void answerOthers() {
        int count = 0;
        int node = game.first[game.here];
        while (node != 0 && count < Game.MOVES) {
            list[count] = game.move[node];
            count++;
            node = game.after[node];
        }
        answerList(count);
    }

    private void play() {
        int at = words.begin[1];
        for (int word = 1; at < words.stop; word++) {
            int stop = words.wordStop(at);
            int move = signs.read(game.board, tape, at, stop);
            if (move < 0) {
                fault(move == Signs.NEARLY ? 3 : 2, word);
                return;
            }
            if (!game.play(move)) {
                fault(4, word);
                return;
            }
            at = stop + 1;
        }
        answerNumber(game.here);
    }

    private void back() {
        int many = words.number(1, 0, Game.MOVES);
        if (many == Words.NOT) {
            fault(1);
            return;
        }
        int node = game.here;
        for (int i = 0; i < many; i++) {
            if (node == 0) {
                fault(5);
                return;
            }
            node = game.parent[node];
        }
        game.goTo(node);
        answerNumber(node);
    }

    private void go() {
        int node = words.number(1, 0, Game.MOVES);
        if (node == Words.NOT) {
            fault(1);
        } else if (node > game.nodes) {
            fault(5);
        } else {
            game.goTo(node);
            answerNumber(node);
        }
    }

    private void mark() {
        int mark = words.number(1, 0, 255);
        if (mark == Words.NOT) {
            fault(1);
        } else if (game.here == 0) {
            fault(5);
        } else if (!game.addMark(mark)) {
            fault(4);
        } else {
            answerNumber(game.marked[game.here]);
        }
    }

    private void say() {
        int text = words.behindSpaces(1);
        if (text < 0) {
            text = words.stop;
        }
        for (int i = text; i < words.stop; i++) {
            if (tape[i] == '}') {
                fault(1);
                return;
            }
        }
        int length = words.stop - text;
        if (length > Game.REMARK) {
            fault(4);
            return;
        }
        game.remarkLength[game.here] = 0;
        game.addRemark(tape, text, length);
        answerNumber(length);
    }

    private void lead() {
        int node = game.here;
        if (node == 0) {
            fault(5);
        } else if (game.goesOn(node)) {
            answerNumber(0);
        } else if (game.tooDeepIfLed(node)) {
            fault(4);
        } else {
            game.lead(node);
            answerNumber(1);
        }
    }

    private void endWith() {
        for (int result = 0; result < 4; result++) {
            if (words.is(1, Game.resultSign(result))) {
                game.result = result;
                answerNothing();
                return;
            }
        }
        fault(1);
    }

    private void tag() {
        int name = words.behindSpaces(1);
        int text = words.behindSpaces(2);
        if (text < 0 || !Game.isName(tape, name, text - 1)) {
            fault(1);
            return;
        }
        int length = text - 1 - name;
        int old = game.findTag(tape, name, length);
        if (Game.isFen(tape, name, length)) {
            fault(5);
        } else if (words.stop - text > Game.VALUE || old < 0 && game.tags == Game.TAGS) {
            fault(4);
        } else {
            game.setTag(tape, name, length, tape, text, words.stop - text);
            answerNumber(game.tags);
        }
    }

    // ---- the present position ----

    private void answerState() {
        Board board = game.board;
        int occurrence = 1 + board.stood();
        int state = 0;
        if (board.legal(list, 0, 1) == 0) {
            state = board.inCheck() ? 1 : 2;
        } else if (board.tooLittle()) {
            state = 3;
        } else if (occurrence >= 5) {
            state = 4;
        } else if (board.clock >= 150) {
            state = 5;
        }
        int claims = 0;
        if (state == 0) {
            claims = (occurrence >= 3 ? 1 : 0) + (board.clock >= 100 ? 2 : 0);
        }
        answers.add('=');
        tell(state);
        tell(occurrence);
        tell(claims);
        answers.add(LINE_END);
    }

    private void answerWays() {
        int many = words.number(1, 0, 3);
        if (many == Words.NOT) {
            fault(1);
        } else if (game.board.tooMuch(many, WORK)) {
            fault(4);
        } else {
            answerNumber(search.ways(game.board, many, 0));
        }
    }

    private void think() {
        int deep = words.number(1, 1, 4);
        boolean calm = words.count == 3;
        Board board = game.board;
        if (deep == Words.NOT || calm && !words.is(2, "calm")) {
            fault(1);
            return;
        }
        if (board.legal(list, 0, 1) == 0) {
            fault(5);
            return;
        }
        if (calm ? board.tooMuch(deep + 2, CALM_WORK) : board.tooMuch(deep, WORK)) {
            fault(4);
            return;
        }
        search.prepare(board, calm);
        answers.add('=');
        tell(search.best(deep, 0));
        tellSigns(search.bestMove);
        for (int n = 1; n < deep; n++) {
            search.makeBest();
            if (search.isByRule()) {
                break;
            }
            search.best(deep - n, n);
            tellSigns(search.bestMove);
        }
        search.takeBack();
        answers.add(LINE_END);
    }

    private void test() {
        int deep = words.number(2, 1, 4);
        int bound = words.number(3, -999999999, 999999999);
        if (deep == Words.NOT || bound == Words.NOT) {
            fault(1);
            return;
        }
        int move = signs.read(game.board, tape, words.begin[1], words.wordStop(words.begin[1]));
        if (move < 0) {
            faultOfSigns(move);
        } else if (game.board.tooMuch(deep, WORK)) {
            fault(4);
        } else {
            search.prepare(game.board, false);
            answerNumber(search.isAtLeast(move, deep, bound) ? 1 : 0);
        }
    }

    private void table() {
        // This house keeps no table of values: how many places it has would change nothing but the time.
        if (words.number(1, 0, 128) == Words.NOT) {
            fault(1);
        } else {
            answerNothing();
        }
    }

    // ---- problems ----

    /** Reads the kind, the goal and the number of moves; answers a fault and 0 if they are not as they must be. */
    private int problemMoves() {
        int many = words.number(3, 1, 3);
        boolean self = words.is(1, "self");
        boolean mate = words.is(2, "mate");
        if (many == Words.NOT || !self && !words.is(1, "direct") || !mate && !words.is(2, "stale")) {
            fault(1);
            return 0;
        }
        problems.prepare(game.board, self, mate, many);
        return many;
    }

    private boolean isTooMuchProblem(int many) {
        if (!game.board.tooMuch(problems.self ? 2 * many : 2 * many - 1, WORK)) {
            return false;
        }
        fault(4);
        return true;
    }

    private void answerKeys() {
        int many = problemMoves();
        if (many != 0 && !isTooMuchProblem(many)) {
            int count = game.board.legal(list, 0, Board.MOST);
            game.board.sort(list, 0, count);
            int keys = 0;
            for (int i = 0; i < count; i++) {
                if (problems.refuter(list[i], many, 0) == Problems.SOLVED) {
                    list[keys] = list[i];
                    keys++;
                }
            }
            answerList(keys);
        }
    }

    private void answerLeast() {
        int many = problemMoves();
        if (many != 0 && !isTooMuchProblem(many)) {
            boolean canMove = game.board.legal(list, 0, 1) > 0;
            int least = 0;
            for (int n = 1; n <= many && least == 0; n++) {
                if (canMove && problems.isSolvable(n, 0)) {
                    least = n;
                }
            }
            answerNumber(least);
        }
    }

    private void answerRefuter() {
        int many = problemMoves();
        if (many == 0) {
            return;
        }
        int move = signs.read(game.board, tape, words.begin[4], words.wordStop(words.begin[4]));
        if (move < 0) {
            faultOfSigns(move);
            return;
        }
        if (isTooMuchProblem(many)) {
            return;
        }
        int refuter = problems.refuter(move, many, 0);
        answers.add('=');
        if (refuter >= 0) {
            long undo = game.board.make(move);
            tellSigns(refuter);
            game.board.unmake(move, undo);
        } else {
            answers.add(' ');
            answers.add(refuter == Problems.SOLVED ? '+' : '-');
        }
        answers.add(LINE_END);
    }

    /** Reads the goal and the number of moves of a help problem; answers a fault and 0 if it can't be looked at. */
    private int helpMoves() {
        int many = words.number(2, 1, 2);
        boolean mate = words.is(1, "mate");
        if (many == Words.NOT || !mate && !words.is(1, "stale")) {
            fault(1);
            return 0;
        }
        problems.prepare(game.board, false, mate, many);
        return many;
    }

    private boolean isTooMuchHelp(int many) {
        if (!game.board.tooMuch(2 * many, WORK)) {
            return false;
        }
        fault(4);
        return true;
    }

    private void answerHelp() {
        int many = helpMoves();
        if (many != 0 && !isTooMuchHelp(many)) {
            problems.wanted = -1;
            problems.help(2 * many, 0);
            answerNumber(problems.lines);
        }
    }

    private void answerLine() {
        int wanted = words.number(3, 0, 999999999);
        if (wanted == Words.NOT) {
            fault(1);
            return;
        }
        int many = helpMoves();
        if (many == 0 || isTooMuchHelp(many)) {
            return;
        }
        problems.wanted = wanted;
        problems.help(2 * many, 0);
        if (!problems.found) {
            fault(5);
            return;
        }
        answers.add('=');
        for (int i = 0; i < 2 * many; i++) {
            tellSigns(problems.chain[i]);
            problems.undo[i] = game.board.make(problems.chain[i]);
        }
        for (int i = 2 * many - 1; i >= 0; i--) {
            game.board.unmake(problems.chain[i], problems.undo[i]);
        }
        answers.add(LINE_END);
    }

    // ---- endings ----

    private void answerEnds() {
        if (!game.board.isEnding()) {
            fault(5);
            return;
        }
        endings.prepare(game.board);
        endings.look(game.board);
        answers.add('=');
        if (endings.distance < 0) {
            answers.add(' ');
            answers.add('-');
        } else {
            tell(endings.distance);
        }
        if (endings.bestMove >= 0) {
            tellSigns(endings.bestMove);
        }
        answers.add(LINE_END);
    }

    /** The commands, each with its word, and how many words its line has at least and at most. */
    private enum Command {
        NONE("", 0, 0, false), NEW("new", 1, 1, false), SET("set", 1, 0, true), GAME("game", 1, 1, false),
        WRITE("write", 1, 1, false), FEN("fen", 1, 1, false), MOVES("moves", 1, 1, false),
        OTHERS("others", 1, 1, false), PLAY("play", 2, 65536, false), BACK("back", 2, 2, false),
        GO("go", 2, 2, false), MARK("mark", 2, 2, false), SAY("say", 1, 0, true), LEAD("lead", 1, 1, false),
        END("end", 2, 2, false), TAG("tag", 1, 0, true), STATE("state", 1, 1, false), WAYS("ways", 2, 2, false),
        SIGHT("sight", 1, 1, false), THINK("think", 2, 3, false), TEST("test", 4, 4, false),
        TABLE("table", 2, 2, false), KEYS("keys", 4, 4, false), LEAST("least", 4, 4, false),
        REFUTE("refute", 5, 5, false), HELP("help", 3, 3, false), LINE("line", 4, 4, false),
        ENDS("ends", 1, 1, false);

        private static final Command[] ALL = values();

        final String word;
        final int least;
        final int most;
        /** What stands behind its first word is a text, in which spaces are free. */
        final boolean hasText;

        Command(String word, int least, int most, boolean hasText) {
            this.word = word;
            this.least = least;
            this.most = most;
            this.hasText = hasText;
        }
    }

    /** Bytes one behind the other, as far as there is room for them. */
    private static final class Bytes {
        final byte[] data;
        int length;

        Bytes(int room) {
            data = new byte[room];
        }

        void clear() {
            length = 0;
        }

        void add(int b) {
            if (length < data.length) {
                data[length] = (byte) b;
                length++;
            }
        }

        void text(String text) {
            for (int i = 0; i < text.length(); i++) {
                add(text.charAt(i));
            }
        }

        void bytes(byte[] from, int at, int stop) {
            for (int i = at; i < stop; i++) {
                add(from[i]);
            }
        }

        void number(long number) {
            long rest = number;
            if (rest < 0) {
                add('-');
                rest = -rest;
            }
            long unit = 1;
            for (int digits = 1; digits < 18 && rest / unit >= 10; digits++) {
                unit *= 10;
            }
            for (; unit > 0; unit /= 10) {
                add((int) ('0' + rest / unit % 10));
            }
        }

        void square(int square) {
            add('a' + (square & 7));
            add('1' + (square >> 3));
        }

        /** Whether a part that comes now needs a space before it. */
        boolean needsGap() {
            return length > 0 && data[length - 1] != LINE_END && data[length - 1] != '(';
        }
    }

    /** The words of one line of the tape. */
    private static final class Words {
        /** No number that is read: all have nine digits at most. */
        static final int NOT = -1000000000;

        final int[] begin = new int[8];
        int count;
        int stop;
        private byte[] tape;
        private int start;

        /** The command of a line that is written as its command must be, or NONE. */
        Command take(byte[] text, int from, int to) {
            tape = text;
            start = from;
            stop = to;
            for (int i = from; i < to; i++) {
                if (text[i] < 32 || text[i] > 126) {
                    return Command.NONE;
                }
            }
            boolean sound = split();
            for (int i = 0; i < Command.ALL.length; i++) {
                Command command = Command.ALL[i];
                if (is(0, command.word)) {
                    boolean fits = sound && count >= command.least && count <= command.most;
                    return fits || command.hasText ? command : Command.NONE;
                }
            }
            return Command.NONE;
        }

        /** Finds where words begin; false if one of them is empty, as where two spaces stand. */
        private boolean split() {
            boolean sound = true;
            boolean fresh = true;
            count = 0;
            for (int i = start; i <= stop; i++) {
                if (fresh) {
                    sound = sound && i < stop && tape[i] != ' ';
                    if (count < begin.length) {
                        begin[count] = i;
                    }
                    count++;
                }
                fresh = i < stop && tape[i] == ' ';
            }
            return sound;
        }

        int wordStop(int at) {
            int i = at;
            while (i < stop && tape[i] != ' ') {
                i++;
            }
            return i;
        }

        boolean is(int word, String text) {
            if (word >= count || word >= begin.length) {
                return false;
            }
            int at = begin[word];
            if (wordStop(at) - at != text.length()) {
                return false;
            }
            for (int i = 0; i < text.length(); i++) {
                if (tape[at + i] != text.charAt(i)) {
                    return false;
                }
            }
            return true;
        }

        /** A number within its bounds, or NOT. */
        int number(int word, int least, int most) {
            if (word >= count || word >= begin.length) {
                return NOT;
            }
            int at = begin[word];
            int last = wordStop(at);
            boolean less = at < last && tape[at] == '-';
            int first = less ? at + 1 : at;
            int digits = last - first;
            if (digits < 1 || digits > 9 || tape[first] == '0' && (digits > 1 || less)) {
                return NOT;
            }
            int value = 0;
            for (int i = first; i < last; i++) {
                if (tape[i] < '0' || tape[i] > '9') {
                    return NOT;
                }
                value = value * 10 + tape[i] - '0';
            }
            value = less ? -value : value;
            return value >= least && value <= most ? value : NOT;
        }

        /** The place behind so many spaces of the line, or -1 if it has not so many. */
        int behindSpaces(int many) {
            int seen = 0;
            for (int i = start; i < stop; i++) {
                if (tape[i] == ' ') {
                    seen++;
                    if (seen == many) {
                        return i + 1;
                    }
                }
            }
            return -1;
        }
    }

    /**
     * A position, and the positions that stood before it in its line. A move is held as from * 512 + to * 8 + m, so
     * that the order of moves is that of their numbers.
     */
    private static final class Board {
        /** No list of moves is longer: 64 men with 27 moves each. */
        static final int MOST = 1728;
        static final int NONE = -1;
        private static final int PAST = 320;
        private static final String MEN = " PNBRQK  pnbrqk";
        /** Four straight steps, then four slanting ones. */
        private static final int[] STEPS = {8, -8, 1, -1, 9, 7, -7, -9};
        private static final int[] FIRST_RANK = {4, 2, 3, 5, 6, 3, 2, 4};
        private static final int[] FORCES = {0, 4, 8, 13, 14, 27, 8, 0};
        /** The rights that are kept when a man leaves a square or comes to it. */
        private static final int[] KEPT = {
            13, 15, 15, 15, 12, 15, 15, 14, 15, 15, 15, 15, 15, 15, 15, 15,
            15, 15, 15, 15, 15, 15, 15, 15, 15, 15, 15, 15, 15, 15, 15, 15,
            15, 15, 15, 15, 15, 15, 15, 15, 15, 15, 15, 15, 15, 15, 15, 15,
            15, 15, 15, 15, 15, 15, 15, 15, 7, 15, 15, 15, 3, 15, 15, 11};

        final int[] men = new int[64];
        final int[] king = new int[2];
        int side;
        int rights;
        int passed;
        int clock;
        int number;
        /** The men again, four bits for each square: what makes comparing two positions short. */
        private final long[] packed = new long[4];
        /** The worth of each side's men, but for the kings. */
        private final int[] worth = new int[2];
        private final int[] count = new int[16];
        /** How many bishops stand on squares of each colour. */
        private final int[] shades = new int[2];
        private final int[] worthAt = new int[1024];
        /** For each square and step how many such steps lead to the edge. */
        private final int[] reach = new int[512];
        /** For each square where a knight goes to, -1 behind the last one. */
        private final int[] hops = new int[512];
        private final long[] past = new long[4 * PAST];
        private final int[] pastRest = new int[PAST];
        private int plies;

        Board() {
            for (int square = 0; square < 64; square++) {
                for (int i = 0; i < 8; i++) {
                    reach[square * 8 + i] = stepsToEdge(square, STEPS[i]);
                }
                fillHops(square);
                for (int man = 1; man < 15; man++) {
                    worthAt[man * 64 + square] = worthOf(man, square);
                }
            }
            setFirst();
        }

        private static int stepsToEdge(int square, int step) {
            int steps = 0;
            int at = square;
            for (int i = 0; i < 7; i++) {
                int to = at + step;
                int across = (to & 7) - (at & 7);
                if (to < 0 || to > 63 || across > 1 || across < -1) {
                    break;
                }
                at = to;
                steps++;
            }
            return steps;
        }

        private void fillHops(int square) {
            int filled = square * 8;
            Arrays.fill(hops, filled, filled + 8, NONE);
            for (int to = 0; to < 64; to++) {
                int along = (to & 7) - (square & 7);
                int up = (to >> 3) - (square >> 3);
                if (along * along + up * up == 5) {
                    hops[filled] = to;
                    filled++;
                }
            }
        }

        private static int middle(int square) {
            int file = square & 7;
            int rank = square >> 3;
            return (file < 4 ? file : 7 - file) + (rank < 4 ? rank : 7 - rank);
        }

        private static int worthOf(int man, int square) {
            switch (man & 7) {
                case 1: return 100 + 6 * (man < 8 ? (square >> 3) - 1 : 6 - (square >> 3));
                case 2: return 320 + 4 * middle(square);
                case 3: return 330 + 3 * middle(square);
                case 4: return 500;
                case 5: return 900 + middle(square);
                default: return 0;
            }
        }

        void clear() {
            Arrays.fill(men, 0);
            Arrays.fill(king, 0);
            Arrays.fill(packed, 0L);
            Arrays.fill(worth, 0);
            Arrays.fill(count, 0);
            Arrays.fill(shades, 0);
            side = 0;
            rights = 0;
            passed = NONE;
            clock = 0;
            number = 1;
            plies = 0;
        }

        void setFirst() {
            clear();
            for (int file = 0; file < 8; file++) {
                put(file, FIRST_RANK[file]);
                put(8 + file, 1);
                put(48 + file, 9);
                put(56 + file, 8 + FIRST_RANK[file]);
            }
            rights = 15;
        }

        private void put(int square, int man) {
            men[square] = man;
            packed[square >> 4] ^= (long) man << ((square & 15) << 2);
            worth[man >> 3] += worthAt[man << 6 | square];
            count[man]++;
            if ((man & 7) == 3) {
                shades[(square ^ square >> 3) & 1]++;
            } else if ((man & 7) == 6) {
                king[man >> 3] = square;
            }
        }

        private void lift(int square) {
            int man = men[square];
            men[square] = 0;
            packed[square >> 4] ^= (long) man << ((square & 15) << 2);
            worth[man >> 3] -= worthAt[man << 6 | square];
            count[man]--;
            if ((man & 7) == 3) {
                shades[(square ^ square >> 3) & 1]--;
            }
        }

        // ---- moves ----

        boolean attacked(int square, int by) {
            for (int i = square * 8; i < square * 8 + 8 && hops[i] >= 0; i++) {
                if (men[hops[i]] == (by << 3 | 2)) {
                    return true;
                }
            }
            for (int i = 0; i < 8; i++) {
                int step = STEPS[i];
                int steps = reach[square * 8 + i];
                int at = square;
                for (int away = 1; away <= steps; away++) {
                    at += step;
                    int man = men[at];
                    if (man == 0) {
                        continue;
                    }
                    if (man >> 3 == by) {
                        int kind = man & 7;
                        if (kind == 5 || kind == (i < 4 ? 4 : 3) || away == 1 && (kind == 6
                                || kind == 1 && i >= 4 && (by == 0 ? step < 0 : step > 0))) {
                            return true;
                        }
                    }
                    break;
                }
            }
            return false;
        }

        boolean inCheck() {
            return attacked(king[side], 1 - side);
        }

        /**
         * Writes legal moves into the list from a place on, all of them or at least so many as are enough, and answers
         * the place behind them. They are in order only when they are sorted.
         */
        int legal(int[] list, int at, int enough) {
            if (at < 0 || at + MOST > list.length) {
                return at;
            }
            int home = king[side];
            boolean checked = attacked(home, 1 - side);
            int kept = at;
            for (int from = 0; from < 64 && kept - at < enough; from++) {
                int man = men[from];
                if (man == 0 || man >> 3 != side) {
                    continue;
                }
                int kind = man & 7;
                int stop = kind == 1 ? pawnMoves(list, kept, from) : kind == 2 ? hopMoves(list, kept, from)
                        : kind == 6 ? kingMoves(list, kept, from, checked) : slideMoves(list, kept, from, kind);
                int along = (from & 7) - (home & 7);
                int up = (from >> 3) - (home >> 3);
                // A man that is on no line with its king can't lay it open.
                boolean free = !checked && along != 0 && up != 0 && along != up && along != -up;
                for (int i = kept; i < stop; i++) {
                    int to = list[i] >> 3 & 63;
                    int where = kind == 1 && to == passed ? passedPawn() : to;
                    boolean safe = free && where == to;
                    if (!safe) {
                        int taken = men[where];
                        men[from] = 0;
                        men[where] = 0;
                        men[to] = man;
                        safe = !attacked(kind == 6 ? to : home, 1 - side)
                                && (kind != 6 || !isCastling(from, to) || !attacked((from + to) >> 1, 1 - side));
                        men[to] = 0;
                        men[where] = taken;
                        men[from] = man;
                    }
                    if (safe) {
                        list[kept] = list[i];
                        kept++;
                    }
                }
            }
            return kept;
        }

        private static boolean isCastling(int from, int to) {
            return to - from == 2 || from - to == 2;
        }

        /** The square of the pawn that just passed. */
        private int passedPawn() {
            return side == 0 ? passed - 8 : passed + 8;
        }

        private int pawnMoves(int[] list, int at, int from) {
            int n = at;
            int forward = side == 0 ? 8 : -8;
            int one = from + forward;
            if (one < 0 || one > 63) {
                return n;
            }
            boolean last = one < 8 || one > 55;
            for (int to = one - 1; to <= one + 1; to++) {
                boolean goes = to == one ? men[to] == 0 : to >= 0 && to < 64 && to >> 3 == one >> 3
                        && (men[to] == 0 ? to == passed : men[to] >> 3 != side);
                if (goes) {
                    for (int m = last ? 2 : 0; m < (last ? 6 : 1); m++) {
                        list[n] = from << 9 | to << 3 | m;
                        n++;
                    }
                }
            }
            if (from >> 3 == (side == 0 ? 1 : 6) && men[one] == 0 && men[one + forward] == 0) {
                list[n] = from << 9 | one + forward << 3;
                n++;
            }
            return n;
        }

        private int hopMoves(int[] list, int at, int from) {
            int n = at;
            for (int i = from * 8; i < from * 8 + 8 && hops[i] >= 0; i++) {
                int there = men[hops[i]];
                if (there == 0 || there >> 3 != side) {
                    list[n] = from << 9 | hops[i] << 3;
                    n++;
                }
            }
            return n;
        }

        private int slideMoves(int[] list, int at, int from, int kind) {
            int n = at;
            for (int i = kind == 3 ? 4 : 0; i < (kind == 4 ? 4 : 8); i++) {
                int steps = reach[from * 8 + i];
                int to = from;
                for (int away = 1; away <= steps; away++) {
                    to += STEPS[i];
                    int there = men[to];
                    if (there == 0 || there >> 3 != side) {
                        list[n] = from << 9 | to << 3;
                        n++;
                    }
                    if (there != 0) {
                        break;
                    }
                }
            }
            return n;
        }

        private int kingMoves(int[] list, int at, int from, boolean checked) {
            int n = at;
            for (int i = 0; i < 8; i++) {
                if (reach[from * 8 + i] > 0) {
                    int there = men[from + STEPS[i]];
                    if (there == 0 || there >> 3 != side) {
                        list[n] = from << 9 | from + STEPS[i] << 3;
                        n++;
                    }
                }
            }
            if (checked || from != (side == 0 ? 4 : 60)) {
                return n;
            }
            if ((rights >> side * 2 & 1) != 0 && men[from + 1] == 0 && men[from + 2] == 0) {
                list[n] = from << 9 | from + 2 << 3;
                n++;
            }
            if ((rights >> side * 2 & 2) != 0 && men[from - 1] == 0 && men[from - 2] == 0 && men[from - 3] == 0) {
                list[n] = from << 9 | from - 2 << 3;
                n++;
            }
            return n;
        }

        void sort(int[] list, int at, int stop) {
            for (int i = at + 1; i < stop; i++) {
                int move = list[i];
                int place = i;
                while (place > at && list[place - 1] > move) {
                    list[place] = list[place - 1];
                    place--;
                }
                list[place] = move;
            }
        }

        boolean takes(int move) {
            int to = move >> 3 & 63;
            return men[to] != 0 || to == passed && (men[move >> 9] & 7) == 1;
        }

        /** Makes a legal move; the answer is what takes it back. */
        long make(int move) {
            int from = move >> 9;
            int to = move >> 3 & 63;
            int become = move & 7;
            int man = men[from];
            int kind = man & 7;
            int where = kind == 1 && to == passed ? passedPawn() : to;
            int taken = men[where];
            long undo = taken | rights << 4 | passed + 1 << 8 | (long) clock << 16;
            lift(from);
            if (taken != 0) {
                lift(where);
            }
            put(to, become == 0 ? man : man & 8 | become);
            if (kind == 6 && to - from == 2) {
                lift(from + 3);
                put(from + 1, side << 3 | 4);
            } else if (kind == 6 && from - to == 2) {
                lift(from - 4);
                put(from - 1, side << 3 | 4);
            }
            rights &= KEPT[from] & KEPT[to];
            passed = kind == 1 ? passedBy(from, to) : NONE;
            clock = kind == 1 || taken != 0 ? 0 : clock + 1;
            number += side;
            side ^= 1;
            return undo;
        }

        /** The square that a pawn passed, if a pawn of the other side attacks it. */
        private int passedBy(int from, int to) {
            if (to - from != 16 && from - to != 16) {
                return NONE;
            }
            int pawn = (1 - side) << 3 | 1;
            boolean attacked = (to & 7) > 0 && men[to - 1] == pawn || (to & 7) < 7 && men[to + 1] == pawn;
            return attacked ? (from + to) >> 1 : NONE;
        }

        void unmake(int move, long undo) {
            int from = move >> 9;
            int to = move >> 3 & 63;
            side ^= 1;
            number -= side;
            rights = (int) (undo >> 4) & 15;
            passed = ((int) (undo >> 8) & 127) - 1;
            clock = (int) (undo >> 16);
            int man = (move & 7) == 0 ? men[to] : side << 3 | 1;
            int kind = man & 7;
            int taken = (int) undo & 15;
            lift(to);
            put(from, man);
            if (taken != 0) {
                put(kind == 1 && to == passed ? passedPawn() : to, taken);
            }
            if (kind == 6 && to - from == 2) {
                lift(from + 1);
                put(from + 3, side << 3 | 4);
            } else if (kind == 6 && from - to == 2) {
                lift(from - 1);
                put(from - 4, side << 3 | 4);
            }
        }

        // ---- the line so far ----

        /** All that makes a position another one beside its men: side, rights, and where pawns may take in passing. */
        private int rest() {
            int takeable = NONE;
            if (passed >= 0) {
                int pawn = passedPawn();
                int own = side << 3 | 1;
                int taken = men[pawn];
                for (int from = pawn - 1; from <= pawn + 1; from += 2) {
                    if (from >> 3 == pawn >> 3 && men[from] == own) {
                        men[from] = 0;
                        men[pawn] = 0;
                        men[passed] = own;
                        if (!attacked(king[side], 1 - side)) {
                            takeable = passed;
                        }
                        men[passed] = 0;
                        men[pawn] = taken;
                        men[from] = own;
                    }
                }
            }
            return side | rights << 1 | takeable + 1 << 5;
        }

        /** Keeps the position as one of the line, before a move is made. */
        void remember() {
            if (plies < PAST) {
                System.arraycopy(packed, 0, past, plies * 4, 4);
                pastRest[plies] = rest();
                plies++;
            }
        }

        void forget() {
            if (plies > 0) {
                plies--;
            }
        }

        /** How often the same position stood before in the line. */
        int stood() {
            // Behind a move of a pawn, or one that takes, no position is one from before it.
            int least = plies > clock ? plies - clock : 0;
            if (plies - 4 < least) {
                return 0;
            }
            int rest = rest();
            int times = 0;
            for (int i = plies - 4; i >= least; i -= 2) {
                int at = i * 4;
                if (pastRest[i] == rest && past[at] == packed[0] && past[at + 1] == packed[1]
                        && past[at + 2] == packed[2] && past[at + 3] == packed[3]) {
                    times++;
                }
            }
            return times;
        }

        boolean tooLittle() {
            if (count[1] + count[9] + count[4] + count[12] + count[5] + count[13] > 0) {
                return false;
            }
            int knights = count[2] + count[10];
            int bishops = count[3] + count[11];
            return knights == 0 ? shades[0] == 0 || shades[1] == 0 : knights == 1 && bishops == 0;
        }

        /** Whether a look counts it as drawn, repetition aside. */
        boolean isQuickDraw() {
            return clock >= 100 || tooLittle();
        }

        boolean isEnding() {
            int all = 0;
            for (int man = 1; man < 15; man++) {
                all += count[man];
            }
            return all == 3;
        }

        // ---- what it is worth ----

        int sight() {
            int other = 1 - side;
            return worth[side] + kingWorth(middle(king[side]), count[other << 3 | 5])
                    - worth[other] - kingWorth(middle(king[other]), count[side << 3 | 5]) + 10;
        }

        private static int kingWorth(int middle, int queensAgainst) {
            return queensAgainst > 0 ? 3 * (6 - middle) : 4 * middle;
        }

        /** Whether the work of so many moves is above a limit. */
        boolean tooMuch(int many, int limit) {
            long work = 1;
            for (int i = 0; i < many && work <= limit; i++) {
                int of = side ^ i & 1;
                int force = 0;
                for (int kind = 1; kind < 7; kind++) {
                    force += FORCES[kind] * count[of << 3 | kind];
                }
                work *= force;
            }
            return work > limit;
        }

        // ---- its text ----

        /** Sets up the position of a text; answers the text's fault, or 0. */
        int readText(byte[] text, int begin, int stop) {
            clear();
            int at = readMen(text, begin, stop);
            at = readSideAndRights(text, at, stop);
            at = readPassed(text, at, stop);
            at = readNumbers(text, at, stop);
            if (at != stop) {
                return 1;
            }
            if (count[6] != 1 || count[14] != 1) {
                return 2;
            }
            for (int file = 0; file < 8; file++) {
                if ((men[file] & 7) == 1 || (men[56 + file] & 7) == 1) {
                    return 3;
                }
            }
            if (attacked(king[1 - side], side)) {
                return 4;
            }
            if (!rightsStand()) {
                return 5;
            }
            return passed == NONE || passedStands() ? 0 : 6;
        }

        /** Each of these readers answers the place behind what it read, or -1; behind a -1 all read nothing. */
        private int readMen(byte[] text, int begin, int stop) {
            int rank = 7;
            int file = 0;
            boolean digit = false;
            int at = begin;
            for (; at < stop && text[at] != ' '; at++) {
                int c = text[at];
                if (c == '/') {
                    if (file != 8 || rank == 0) {
                        return -1;
                    }
                    rank--;
                    file = 0;
                    digit = false;
                } else if (c >= '1' && c <= '8') {
                    file += c - '0';
                    if (digit || file > 8) {
                        return -1;
                    }
                    digit = true;
                } else {
                    int man = MEN.indexOf((char) c);
                    if (man <= 0 || file > 7) {
                        return -1;
                    }
                    put(rank * 8 + file, man);
                    file++;
                    digit = false;
                }
            }
            return rank == 0 && file == 8 ? at : -1;
        }

        private int readSideAndRights(byte[] text, int begin, int stop) {
            if (begin < 0 || stop - begin < 5 || text[begin] != ' ' || text[begin + 2] != ' ') {
                return -1;
            }
            int mover = text[begin + 1];
            if (mover != 'w' && mover != 'b') {
                return -1;
            }
            side = mover == 'w' ? 0 : 1;
            int at = begin + 3;
            if (text[at] == '-') {
                return at + 1;
            }
            for (int i = 0; i < 4; i++) {
                if (at < stop && text[at] == "KQkq".charAt(i)) {
                    rights |= 1 << i;
                    at++;
                }
            }
            return rights == 0 ? -1 : at;
        }

        private int readPassed(byte[] text, int begin, int stop) {
            if (begin < 0 || stop - begin < 2 || text[begin] != ' ') {
                return -1;
            }
            int file = text[begin + 1];
            if (file == '-') {
                return begin + 2;
            }
            if (file < 'a' || file > 'h' || stop - begin < 3 || text[begin + 2] < '1' || text[begin + 2] > '8') {
                return -1;
            }
            passed = file - 'a' + 8 * (text[begin + 2] - '1');
            return begin + 3;
        }

        private int readNumbers(byte[] text, int begin, int stop) {
            int at = begin;
            for (int i = 0; i < 2; i++) {
                if (at < 0 || at >= stop || text[at] != ' ') {
                    return -1;
                }
                at++;
                int first = at;
                int value = 0;
                while (at < stop && at - first < 3 && text[at] >= '0' && text[at] <= '9') {
                    value = value * 10 + text[at] - '0';
                    at++;
                }
                if (at == first || text[first] == '0' && at - first > 1 || i == 1 && value == 0) {
                    return -1;
                }
                if (i == 0) {
                    clock = value;
                } else {
                    number = value;
                }
            }
            return at;
        }

        private boolean rightsStand() {
            for (int i = 0; i < 4; i++) {
                int home = i < 2 ? 4 : 60;
                int colour = i < 2 ? 0 : 8;
                int rook = (i & 1) == 0 ? home + 3 : home - 4;
                if ((rights >> i & 1) != 0 && (men[home] != (colour | 6) || men[rook] != (colour | 4))) {
                    return false;
                }
            }
            return true;
        }

        private boolean passedStands() {
            if (passed >> 3 != (side == 0 ? 5 : 2) || men[passed] != 0) {
                return false;
            }
            int pawn = passedPawn();
            int behind = side == 0 ? passed + 8 : passed - 8;
            if (men[pawn] != ((1 - side) << 3 | 1) || men[behind] != 0) {
                return false;
            }
            int own = side << 3 | 1;
            return (pawn & 7) > 0 && men[pawn - 1] == own || (pawn & 7) < 7 && men[pawn + 1] == own;
        }

        void writeText(Bytes to) {
            for (int rank = 7; rank >= 0; rank--) {
                int empty = 0;
                for (int file = 0; file < 8; file++) {
                    int man = men[rank * 8 + file];
                    if (man == 0) {
                        empty++;
                    } else {
                        if (empty > 0) {
                            to.add('0' + empty);
                        }
                        empty = 0;
                        to.add(MEN.charAt(man));
                    }
                }
                if (empty > 0) {
                    to.add('0' + empty);
                }
                to.add(rank > 0 ? '/' : ' ');
            }
            to.add(side == 0 ? 'w' : 'b');
            to.add(' ');
            for (int i = 0; i < 4; i++) {
                if ((rights >> i & 1) != 0) {
                    to.add("KQkq".charAt(i));
                }
            }
            to.text(rights == 0 ? "- " : " ");
            if (passed >= 0) {
                to.square(passed);
            } else {
                to.add('-');
            }
            to.add(' ');
            to.number(clock > 999 ? 999 : clock);
            to.add(' ');
            to.number(number > 999 ? 999 : number);
        }
    }

    /** Reads and writes the signs of moves. */
    private static final class Signs {
        /** No legal move fits, or more than one. */
        static final int NO_FIT = -1;
        /** None fits, but just one would without x, + and #. */
        static final int NEARLY = -2;
        private static final String LETTERS = "  NBRQK";
        private static final int LONGEST = 7;

        private final int[] list = new int[2 * Board.MOST];
        private final int[] row = new int[LONGEST];
        private int length;
        private int kind;
        private int file;
        private int rank;
        private int to;
        private int become;
        /** How far the king goes when it castles, 0 if these are no signs of that. */
        private int castling;
        private boolean takes;
        private int check;

        /** The one legal move that fits the signs, or NO_FIT or NEARLY. */
        int read(Board board, byte[] text, int at, int stop) {
            int count = board.legal(list, 0, Board.MOST);
            for (int pass = 0; pass < 2; pass++) {
                boolean bare = pass == 1;
                int times = 0;
                int found = NO_FIT;
                if (copy(text, at, stop, bare) && parse()) {
                    for (int i = 0; i < count; i++) {
                        int move = list[i];
                        if (fits(board, move) && (bare || takes == board.takes(move)
                                && (check == 0 || check == checkSign(board, move, count)))) {
                            times++;
                            found = move;
                        }
                    }
                }
                if (times > 0) {
                    return times > 1 ? NO_FIT : bare ? NEARLY : found;
                }
            }
            return NO_FIT;
        }

        /** Takes the signs into the row, without x, + and # if they shall be bare; false if they are too long. */
        private boolean copy(byte[] text, int at, int stop, boolean bare) {
            length = 0;
            for (int i = at; i < stop; i++) {
                int c = text[i];
                if (bare && (c == 'x' || c == '+' || c == '#')) {
                    continue;
                }
                if (length == LONGEST) {
                    return false;
                }
                row[length] = c;
                length++;
            }
            return true;
        }

        private boolean isRow(String text) {
            if (length != text.length()) {
                return false;
            }
            for (int i = 0; i < length; i++) {
                if (row[i] != text.charAt(i)) {
                    return false;
                }
            }
            return true;
        }

        /** Takes the row apart; false if it is not written as signs are. */
        private boolean parse() {
            check = 0;
            file = -1;
            rank = -1;
            become = 0;
            takes = false;
            if (length > 0 && (row[length - 1] == '+' || row[length - 1] == '#')) {
                check = row[length - 1];
                length--;
            }
            castling = isRow("O-O") ? 2 : isRow("O-O-O") ? -2 : 0;
            if (castling != 0) {
                kind = 6;
                return true;
            }
            int letter = length > 0 ? LETTERS.indexOf((char) row[0]) : -1;
            int first = letter >= 2 ? 1 : 0;
            kind = letter >= 2 ? letter : 1;
            if (kind == 1 && length >= 2 && row[length - 2] == '=') {
                become = LETTERS.indexOf((char) row[length - 1]);
                length -= 2;
                if (become < 2 || become > 5) {
                    return false;
                }
            }
            return parseSquares(first);
        }

        private boolean parseSquares(int first) {
            if (length - first < 2 || !isFile(row[length - 2]) || !isRank(row[length - 1])) {
                return false;
            }
            to = row[length - 2] - 'a' + 8 * (row[length - 1] - '1');
            length -= 2;
            if (length > first && row[length - 1] == 'x') {
                takes = true;
                length--;
            }
            int at = first;
            if (at < length && isFile(row[at])) {
                file = row[at] - 'a';
                at++;
            }
            if (at < length && kind != 1 && isRank(row[at])) {
                rank = row[at] - '1';
                at++;
            }
            return at == length;
        }

        private static boolean isFile(int c) {
            return c >= 'a' && c <= 'h';
        }

        private static boolean isRank(int c) {
            return c >= '1' && c <= '8';
        }

        /** Whether a move fits what was read, whatever it takes and whether it gives check or not. */
        private boolean fits(Board board, int move) {
            int from = move >> 9;
            int goal = move >> 3 & 63;
            if ((board.men[from] & 7) != kind) {
                return false;
            }
            int along = goal - from;
            boolean castles = kind == 6 && (along == 2 || along == -2);
            if (castles || castling != 0) {
                return castles && along == castling;
            }
            if (goal != to || (move & 7) != become || rank >= 0 && from >> 3 != rank) {
                return false;
            }
            // A pawn that takes must tell its file.
            return file >= 0 ? (from & 7) == file : kind != 1 || (from & 7) == (goal & 7);
        }

        /** The sign for check or mate by a move, or 0; the list is free from a place on. */
        private int checkSign(Board board, int move, int free) {
            long undo = board.make(move);
            int sign = 0;
            if (board.inCheck()) {
                sign = board.legal(list, free, 1) == free ? '#' : '+';
            }
            board.unmake(move, undo);
            return sign;
        }

        void write(Board board, int move, Bytes out) {
            int from = move >> 9;
            int goal = move >> 3 & 63;
            int man = board.men[from] & 7;
            if (man == 6 && goal - from == 2) {
                out.text("O-O");
            } else if (man == 6 && from - goal == 2) {
                out.text("O-O-O");
            } else {
                boolean taking = board.takes(move);
                if (man > 1) {
                    out.add(LETTERS.charAt(man));
                    tellApart(board, move, out);
                } else if (taking) {
                    out.add('a' + (from & 7));
                }
                if (taking) {
                    out.add('x');
                }
                out.square(goal);
                if ((move & 7) != 0) {
                    out.add('=');
                    out.add(LETTERS.charAt(move & 7));
                }
            }
            int sign = checkSign(board, move, 0);
            if (sign != 0) {
                out.add(sign);
            }
        }

        private void tellApart(Board board, int move, Bytes out) {
            int from = move >> 9;
            int count = board.legal(list, 0, Board.MOST);
            boolean others = false;
            boolean sameFile = false;
            boolean sameRank = false;
            for (int i = 0; i < count; i++) {
                int other = list[i] >> 9;
                if (other != from && (list[i] >> 3 & 63) == (move >> 3 & 63) && board.men[other] == board.men[from]) {
                    others = true;
                    sameFile = sameFile || (other & 7) == (from & 7);
                    sameRank = sameRank || other >> 3 == from >> 3;
                }
            }
            if (others && (!sameFile || sameRank)) {
                out.add('a' + (from & 7));
            }
            if (others && sameFile) {
                out.add('1' + (from >> 3));
            }
        }
    }

    /** A tree of moves with its tags and its result; its board stands at the node that is HERE. */
    private static final class Game {
        static final int MOVES = 300;
        static final int DEEPEST = 6;
        static final int MARKS = 4;
        static final int REMARK = 200;
        static final int TAGS = 8;
        static final int NAME = 12;
        static final int VALUE = 96;
        static final byte[] FEN = {'F', 'E', 'N'};
        static final byte[] RESULT = {'R', 'e', 's', 'u', 'l', 't'};

        final Board board = new Board();
        int nodes;
        int here;
        /** A node's parent has a lower number than the node itself. */
        final int[] parent = new int[MOVES + 1];
        final int[] move = new int[MOVES + 1];
        /** The first node behind each one, and the next one with the same parent; 0 for none. */
        final int[] first = new int[MOVES + 1];
        final int[] after = new int[MOVES + 1];
        final long[] undo = new long[MOVES + 1];
        final int[] marks = new int[(MOVES + 1) * MARKS];
        final int[] marked = new int[MOVES + 1];
        final byte[] remarks = new byte[(MOVES + 1) * REMARK];
        final int[] remarkLength = new int[MOVES + 1];
        private final int[] path = new int[MOVES + 1];
        int tags;
        final byte[] names = new byte[TAGS * NAME];
        final int[] nameLength = new int[TAGS];
        final byte[] values = new byte[TAGS * VALUE];
        final int[] valueLength = new int[TAGS];
        int result;

        void clear() {
            board.setFirst();
            nodes = 0;
            here = 0;
            first[0] = 0;
            remarkLength[0] = 0;
            tags = 0;
            result = 0;
        }

        static String resultSign(int result) {
            switch (result) {
                case 1: return "1-0";
                case 2: return "0-1";
                case 3: return "1/2-1/2";
                default: return "*";
            }
        }

        // ---- nodes ----

        /** The node behind HERE that has a move, or 0. */
        int child(int wanted) {
            int node = first[here];
            for (int i = 0; i < MOVES && node != 0 && move[node] != wanted; i++) {
                node = after[node];
            }
            return node;
        }

        boolean goesOn(int node) {
            return first[parent[node]] == node;
        }

        /** Goes on to the node with a move, or makes it; false if there would be too much. */
        boolean play(int wanted) {
            int node = child(wanted);
            if (node != 0) {
                board.remember();
                undo[node] = board.make(wanted);
                here = node;
                return true;
            }
            if (nodes == MOVES || first[here] != 0 && deep(here) == DEEPEST) {
                return false;
            }
            add(wanted);
            return true;
        }

        /** A new last node behind HERE, which becomes HERE. */
        void add(int wanted) {
            nodes++;
            int node = nodes;
            parent[node] = here;
            move[node] = wanted;
            first[node] = 0;
            after[node] = 0;
            marked[node] = 0;
            remarkLength[node] = 0;
            int last = first[here];
            if (last == 0) {
                first[here] = node;
            } else {
                for (int i = 0; i < MOVES && after[last] != 0; i++) {
                    last = after[last];
                }
                after[last] = node;
            }
            board.remember();
            undo[node] = board.make(wanted);
            here = node;
        }

        void up() {
            board.unmake(move[here], undo[here]);
            board.forget();
            here = parent[here];
        }

        void goTo(int wanted) {
            for (int i = 0; i < MOVES && here != 0; i++) {
                up();
            }
            int length = 0;
            int above = wanted;
            while (above != 0 && length < MOVES) {
                path[length] = above;
                length++;
                above = parent[above];
            }
            for (int i = length - 1; i >= 0; i--) {
                int node = path[i];
                board.remember();
                undo[node] = board.make(move[node]);
                here = node;
            }
        }

        private int deep(int of) {
            int others = 0;
            int node = of;
            for (int i = 0; i < MOVES && node != 0; i++) {
                if (!goesOn(node)) {
                    others++;
                }
                node = parent[node];
            }
            return others;
        }

        /** Whether some node would be too deep if this one stood before the others with its parent. */
        boolean tooDeepIfLed(int leader) {
            path[0] = 0;
            for (int node = 1; node <= nodes; node++) {
                int above = parent[node];
                int leading = above == parent[leader] ? leader : first[above];
                path[node] = path[above] + (leading == node ? 0 : 1);
                if (path[node] > DEEPEST) {
                    return true;
                }
            }
            return false;
        }

        void lead(int node) {
            int above = parent[node];
            int before = first[above];
            for (int i = 0; i < MOVES && before != 0 && after[before] != node; i++) {
                before = after[before];
            }
            if (before != 0) {
                after[before] = after[node];
                after[node] = first[above];
                first[above] = node;
            }
        }

        /** A mark more for HERE; false if it has as many as it may. */
        boolean addMark(int mark) {
            if (marked[here] == MARKS) {
                return false;
            }
            marks[here * MARKS + marked[here]] = mark;
            marked[here]++;
            return true;
        }

        /** Joins a text to the remark of HERE; false if that becomes too long. */
        boolean addRemark(byte[] text, int at, int length) {
            int old = remarkLength[here];
            int gap = old > 0 && length > 0 ? 1 : 0;
            if (old + gap + length > REMARK) {
                return false;
            }
            int place = here * REMARK + old;
            if (gap > 0) {
                remarks[place] = ' ';
                place++;
            }
            for (int i = 0; i < length; i++) {
                remarks[place + i] = text[at + i] == LINE_END ? (byte) ' ' : text[at + i];
            }
            remarkLength[here] = old + gap + length;
            return true;
        }

        // ---- tags ----

        static boolean isLetterOrDigit(int c) {
            return c >= '0' && c <= '9' || c >= 'A' && c <= 'Z' || c >= 'a' && c <= 'z';
        }

        static boolean isName(byte[] text, int at, int stop) {
            for (int i = at; i < stop; i++) {
                if (!isLetterOrDigit(text[i])) {
                    return false;
                }
            }
            return stop > at && stop - at <= NAME;
        }

        static boolean isFen(byte[] text, int at, int length) {
            return length == 3 && text[at] == FEN[0] && text[at + 1] == FEN[1] && text[at + 2] == FEN[2];
        }

        /** The place of the tag with a name, or -1. */
        int findTag(byte[] text, int at, int length) {
            for (int tag = 0; tag < tags; tag++) {
                boolean same = nameLength[tag] == length;
                for (int i = 0; i < length && same; i++) {
                    same = names[tag * NAME + i] == text[at + i];
                }
                if (same) {
                    return tag;
                }
            }
            return -1;
        }

        /** Gives the tag with a name its value, in its place or as the last one; both are as short as they must be. */
        void setTag(byte[] text, int name, int length, byte[] from, int value, int valueSize) {
            int tag = findTag(text, name, length);
            if (tag < 0) {
                tag = tags;
                if (tag == TAGS || length > NAME) {
                    return;
                }
                tags++;
                nameLength[tag] = length;
                System.arraycopy(text, name, names, tag * NAME, length);
            }
            if (valueSize <= VALUE) {
                valueLength[tag] = valueSize;
                System.arraycopy(from, value, values, tag * VALUE, valueSize);
            }
        }

        /** Whether there is a tag Result that tells another result. */
        boolean hasOtherResult() {
            int tag = findTag(RESULT, 0, RESULT.length);
            if (tag < 0) {
                return false;
            }
            String sign = resultSign(result);
            boolean same = valueLength[tag] == sign.length();
            for (int i = 0; i < sign.length() && same; i++) {
                same = values[tag * VALUE + i] == sign.charAt(i);
            }
            return !same;
        }
    }

    /** Reads the text of a game, part by part, into a game that is free for it. */
    private static final class GameReader {
        /** What stands before the place that is read: nothing of a line, or the last part of a move. */
        private static final int START = 0;
        private static final int OPENED = 1;
        private static final int SIGNS = 2;
        private static final int MARKS = 3;
        private static final int REMARKS = 4;
        private static final int OVER = 5;

        int place;
        private final Signs signs = new Signs();
        private final int[] outer = new int[Game.DEEPEST];
        private final byte[] value = new byte[Game.VALUE];
        private Game game;
        private byte[] text;
        private int begin;
        private int stop;
        private int at;
        private int fault;
        private int stage;
        private int open;

        /** Answers the text's fault, whose place is kept, or 0; then the game stands at its beginning. */
        int read(Game into, byte[] tape, int from, int to) {
            game = into;
            text = tape;
            begin = from;
            stop = to;
            at = from;
            fault = 0;
            stage = START;
            open = 0;
            game.clear();
            checkBytes();
            skipBlanks();
            for (int i = from; i < to && fault == 0 && current() == '['; i++) {
                readTag();
                skipBlanks();
            }
            for (int i = from; i <= to && fault == 0 && stage != OVER; i++) {
                int c = current();
                if (c == '{' || c == ';') {
                    readRemark();
                } else if (c == '$' || c == '!' || c == '?') {
                    readMark();
                } else if (c == '(' || c == ')') {
                    readBracket();
                } else if (open > 0 || !readResult()) {
                    readMove();
                }
                skipBlanks();
            }
            if (fault == 0 && at < stop) {
                fail(1, at);
            }
            if (fault == 0) {
                game.goTo(0);
            }
            return fault;
        }

        private void fail(int kind, int where) {
            if (fault == 0) {
                fault = kind;
                place = where - begin;
            }
        }

        private void checkBytes() {
            for (int i = begin; i < stop; i++) {
                if (text[i] != LINE_END && (text[i] < 32 || text[i] > 126)) {
                    fail(1, i);
                }
            }
        }

        /** The character at the place that is read, -1 behind the text. */
        private int current() {
            return at < stop ? text[at] : -1;
        }

        private void skipBlanks() {
            while (at < stop && (text[at] == ' ' || text[at] == LINE_END)) {
                at++;
            }
        }

        /** Goes over a character that must be here; false if it is not. */
        private boolean pass(int c) {
            if (current() != c) {
                fail(1, at);
                return false;
            }
            at++;
            return true;
        }

        private void readTag() {
            int first = at;
            at++;
            skipBlanks();
            int name = at;
            while (at < stop && Game.isLetterOrDigit(text[at])) {
                at++;
            }
            int length = at - name;
            skipBlanks();
            if (length == 0) {
                fail(1, at);
                return;
            }
            if (!pass('"')) {
                return;
            }
            int size = readValue();
            if (!pass('"')) {
                return;
            }
            skipBlanks();
            if (!pass(']')) {
                return;
            }
            if (game.tags == Game.TAGS || length > Game.NAME || size > Game.VALUE
                    || game.findTag(text, name, length) >= 0) {
                fail(2, first);
            } else if (Game.isFen(text, name, length) && game.board.readText(value, 0, size) != 0) {
                fail(3, first);
            } else {
                game.setTag(text, name, length, value, 0, size);
            }
        }

        /** Reads a value up to its end or to what can't be in it; answers how long it is, kept or not. */
        private int readValue() {
            int size = 0;
            while (at < stop && text[at] != '"' && text[at] != LINE_END) {
                if (text[at] == '\\') {
                    at++;
                    if (current() != '"' && current() != '\\') {
                        fail(1, at);
                        return size;
                    }
                }
                if (size < value.length) {
                    value[size] = text[at];
                }
                size++;
                at++;
            }
            return size;
        }

        private void readRemark() {
            if (stage == OPENED) {
                fail(1, at);
                return;
            }
            int first = at;
            boolean braced = text[at] == '{';
            int closing = braced ? '}' : LINE_END;
            at++;
            while (at < stop && text[at] != closing) {
                if (text[at] == '}') {
                    fail(1, at);
                    return;
                }
                at++;
            }
            if (braced && at == stop) {
                fail(1, at);
                return;
            }
            if (!game.addRemark(text, first + 1, at - first - 1)) {
                fail(8, first);
                return;
            }
            if (at < stop) {
                at++;
            }
            if (stage != START) {
                stage = REMARKS;
            }
        }

        private void readMark() {
            int first = at;
            int mark = 0;
            if (text[at] == '$' && (stage == SIGNS || stage == MARKS)) {
                at++;
                while (at < stop && at - first < 4 && isDigit(text[at])) {
                    mark = mark * 10 + text[at] - '0';
                    at++;
                }
                if (at - first == 1) {
                    fail(1, at);
                }
            } else if (text[at] != '$' && stage == SIGNS) {
                int one = text[at];
                at++;
                int two = current();
                mark = one == '!' ? 1 : 2;
                if (two == '!' || two == '?') {
                    mark = one == two ? mark + 2 : mark + 4;
                    at++;
                }
            } else {
                fail(1, at);
            }
            if (fault == 0 && (mark > 255 || !game.addMark(mark))) {
                fail(8, first);
            }
            // Three digits are all of a mark, which is looked at before a fourth one behind it.
            if (text[first] == '$' && isDigit(current())) {
                fail(1, at);
            }
            stage = MARKS;
        }

        private void readBracket() {
            boolean opens = text[at] == '(';
            if (stage == START || stage == OPENED || !opens && open == 0) {
                fail(1, at);
            } else if (!opens) {
                open--;
                game.goTo(outer[open]);
                stage = REMARKS;
            } else if (open == Game.DEEPEST) {
                fail(8, at);
            } else {
                outer[open] = game.here;
                open++;
                game.up();
                stage = OPENED;
            }
            at++;
        }

        private boolean startsWith(String sign) {
            if (stop - at < sign.length()) {
                return false;
            }
            for (int i = 0; i < sign.length(); i++) {
                if (text[at + i] != sign.charAt(i)) {
                    return false;
                }
            }
            return true;
        }

        private boolean readResult() {
            for (int result = 0; result < 4; result++) {
                String sign = Game.resultSign(result);
                if (startsWith(sign)) {
                    game.result = result;
                    if (game.hasOtherResult()) {
                        fail(9, at);
                    }
                    at += sign.length();
                    stage = OVER;
                    return true;
                }
            }
            return false;
        }

        private static boolean isDigit(int c) {
            return c >= '0' && c <= '9';
        }

        private void readMove() {
            if (isDigit(current())) {
                readNumber();
                skipBlanks();
            }
            if (isDigit(current()) || !Game.isLetterOrDigit(current())) {
                fail(1, at);
            }
            if (fault != 0) {
                return;
            }
            int first = at;
            while (at < stop && (Game.isLetterOrDigit(text[at]) || text[at] == '=' || text[at] == '-'
                    || text[at] == '+' || text[at] == '#')) {
                at++;
            }
            int move = signs.read(game.board, text, first, at);
            if (move < 0) {
                fail(move == Signs.NEARLY ? 5 : 4, first);
            } else if (game.child(move) != 0) {
                fail(6, first);
            } else if (game.nodes == Game.MOVES) {
                fail(8, first);
            } else {
                game.add(move);
                stage = SIGNS;
            }
        }

        /** Four digits are all of a number, which is looked at before a fifth one: where a letter must stand. */
        private void readNumber() {
            int first = at;
            int number = 0;
            while (at < stop && at - first < 4 && isDigit(text[at])) {
                number = number * 10 + text[at] - '0';
                at++;
            }
            while (at < stop && text[at] == '.') {
                at++;
            }
            if (number != game.board.number) {
                fail(7, first);
            }
        }
    }

    /** Writes a game as it is usual. */
    private static final class GameWriter {
        /** More than any game takes: 300 moves with all that may stand behind them. */
        private final Bytes text = new Bytes(2 * ROOM);
        private final Signs signs = new Signs();
        private Game game;

        void answer(Game written, Bytes out) {
            game = written;
            int here = game.here;
            game.goTo(0);
            text.clear();
            writeTags();
            writeRemark(0);
            writeLine(game.first[0], 0);
            writeGap();
            text.text(Game.resultSign(game.result));
            game.goTo(here);
            out.text("= ");
            out.number(text.length);
            out.add(LINE_END);
            out.bytes(text.data, 0, text.length);
            out.add(LINE_END);
        }

        private void writeTags() {
            for (int tag = 0; tag < game.tags; tag++) {
                text.add('[');
                int name = tag * Game.NAME;
                text.bytes(game.names, name, name + game.nameLength[tag]);
                text.text(" \"");
                for (int i = 0; i < game.valueLength[tag]; i++) {
                    int c = game.values[tag * Game.VALUE + i];
                    if (c == '"' || c == '\\') {
                        text.add('\\');
                    }
                    text.add(c);
                }
                text.text("\"]");
                text.add(LINE_END);
            }
            if (game.tags > 0) {
                text.add(LINE_END);
            }
        }

        private void writeGap() {
            if (text.needsGap()) {
                text.add(' ');
            }
        }

        /** Writes the remark of a node; false if it has none. */
        private boolean writeRemark(int node) {
            if (game.remarkLength[node] == 0) {
                return false;
            }
            writeGap();
            text.add('{');
            int at = node * Game.REMARK;
            text.bytes(game.remarks, at, at + game.remarkLength[node]);
            text.add('}');
            return true;
        }

        private void writeNumber(Board board) {
            writeGap();
            text.number(board.number);
            text.text(board.side == 0 ? "." : "...");
        }

        private void writeMarks(int node) {
            for (int i = 0; i < game.marked[node]; i++) {
                writeGap();
                text.add('$');
                text.number(game.marks[node * Game.MARKS + i]);
            }
        }

        /** Writes the line that begins with a node, from the position before it, which stands again behind it. */
        private void writeLine(int head, int depth) {
            if (depth > Game.DEEPEST) {
                return;
            }
            Board board = game.board;
            boolean numbered = true;
            int last = head;
            int length = 0;
            int node = head;
            while (node != 0 && length < Game.MOVES) {
                if (numbered || board.side == 0) {
                    writeNumber(board);
                }
                writeGap();
                signs.write(board, game.move[node], text);
                writeMarks(node);
                numbered = writeRemark(node);
                int other = game.goesOn(node) ? game.after[node] : 0;
                for (int i = 0; i < Game.MOVES && other != 0; i++) {
                    writeGap();
                    text.add('(');
                    writeLine(other, depth + 1);
                    text.add(')');
                    numbered = true;
                    other = game.after[other];
                }
                game.undo[node] = board.make(game.move[node]);
                last = node;
                length++;
                node = game.first[node];
            }
            for (; length > 0; length--) {
                board.unmake(game.move[last], game.undo[last]);
                last = game.parent[last];
            }
        }
    }

    /** Looks some moves deep, and counts ways. */
    private static final class Search {
        private static final int FAR = 1000000000;
        private static final int MATED = 30000;
        private static final int CALM_MOVES = 4;

        int bestMove;
        private final int[] list = new int[12 * Board.MOST];
        private final int[] made = new int[8];
        private final long[] undone = new long[8];
        private int depth;
        private Board board;
        private boolean calm;

        void prepare(Board present, boolean withCalm) {
            board = present;
            calm = withCalm;
            depth = 0;
        }

        private long ways(Board from, int many, int at) {
            if (many <= 0) {
                return 1;
            }
            int stop = from.legal(list, at, Board.MOST);
            if (many == 1) {
                return stop - at;
            }
            long sum = 0;
            for (int i = at; i < stop; i++) {
                int move = list[i];
                long undo = from.make(move);
                sum += ways(from, many - 1, stop);
                from.unmake(move, undo);
            }
            return sum;
        }

        /** The value of the position so deep, n moves behind the present one; keeps its best move. */
        int best(int deep, int n) {
            int stop = board.legal(list, 0, Board.MOST);
            board.sort(list, 0, stop);
            int best = -FAR;
            for (int i = 0; i < stop; i++) {
                board.remember();
                long undo = board.make(list[i]);
                int value = -value(deep - 1, n + 1, stop, -FAR, -best);
                board.unmake(list[i], undo);
                board.forget();
                if (value > best) {
                    best = value;
                    bestMove = list[i];
                }
            }
            return best;
        }

        /** Whether the value of the position is one by the rules, not by its moves. */
        boolean isByRule() {
            return board.legal(list, 0, 1) == 0 || board.isQuickDraw() || board.stood() >= 2;
        }

        void makeBest() {
            if (depth < made.length) {
                board.remember();
                made[depth] = bestMove;
                undone[depth] = board.make(bestMove);
                depth++;
            }
        }

        /** Takes back all best moves that were made. */
        void takeBack() {
            while (depth > 0) {
                depth--;
                board.unmake(made[depth], undone[depth]);
                board.forget();
            }
        }

        boolean isAtLeast(int move, int deep, int bound) {
            board.remember();
            long undo = board.make(move);
            int value = -value(deep - 1, 1, 0, -bound, 1 - bound);
            board.unmake(move, undo);
            board.forget();
            return value >= bound;
        }

        /** The value, if it is between alpha and beta; otherwise a number on the same side of them as the value. */
        private int value(int deep, int n, int at, int alpha, int beta) {
            int stop = board.legal(list, at, deep > 0 ? Board.MOST : 1);
            if (stop == at) {
                return board.inCheck() ? n - MATED : 0;
            }
            if (board.isQuickDraw() || board.stood() >= 2) {
                return 0;
            }
            if (deep <= 0) {
                return calm ? calmValue(CALM_MOVES, n, at, alpha, beta) : board.sight();
            }
            takingFirst(at, stop);
            int best = -FAR;
            int low = alpha;
            for (int i = at; i < stop && best < beta; i++) {
                int move = list[i];
                board.remember();
                long undo = board.make(move);
                int value = -value(deep - 1, n + 1, stop, -beta, -low);
                board.unmake(move, undo);
                board.forget();
                best = value > best ? value : best;
                low = best > low ? best : low;
            }
            return best;
        }

        /** The value of a position for the calm, by the rules that hold there, otherwise its calm for k moves. */
        private int calmValue(int k, int n, int at, int alpha, int beta) {
            int stop = board.legal(list, at, k > 0 ? Board.MOST : 1);
            if (stop == at) {
                return board.inCheck() ? n - MATED : 0;
            }
            if (board.tooLittle()) {
                return 0;
            }
            int best = board.sight();
            if (k <= 0) {
                return best;
            }
            int low = best > alpha ? best : alpha;
            int taking = takingFirst(at, stop);
            for (int i = at; i < taking && best < beta; i++) {
                int move = list[i];
                long undo = board.make(move);
                int value = -calmValue(k - 1, n + 1, taking, -beta, -low);
                board.unmake(move, undo);
                best = value > best ? value : best;
                low = best > low ? best : low;
            }
            return best;
        }

        /** Puts moves that take or make a pawn another man first, as they end looks early; answers where they stop. */
        private int takingFirst(int at, int stop) {
            int taking = at;
            for (int i = at; i < stop; i++) {
                int move = list[i];
                if ((move & 7) != 0 || board.takes(move)) {
                    list[i] = list[taking];
                    list[taking] = move;
                    taking++;
                }
            }
            return taking;
        }
    }

    /** Solves direct and self problems, and finds help lines. */
    private static final class Problems {
        static final int SOLVED = -1;
        static final int NOTHING = -2;

        boolean self;
        int wanted;
        int lines;
        boolean found;
        final int[] chain = new int[4];
        final long[] undo = new long[4];
        private final int[] list = new int[8 * Board.MOST];
        private Board board;
        private boolean mate;
        private int asked;

        void prepare(Board present, boolean asSelf, boolean withMate, int many) {
            board = present;
            self = asSelf;
            mate = withMate;
            asked = many;
            lines = 0;
            found = false;
        }

        /** What refutes a move in a problem in n moves: SOLVED if it is a key, NOTHING, or a move. */
        private int refuter(int move, int n, int at) {
            long made = board.make(move);
            int stop = at;
            int told;
            if (self || n > 1 || n == asked) {
                stop = board.legal(list, at, Board.MOST);
                told = stop > at || !self && board.inCheck() == mate ? SOLVED : NOTHING;
            } else {
                // Inside of a problem it is all the same what refutes a last move.
                told = isBeaten(at) ? SOLVED : NOTHING;
            }
            if (n == asked) {
                board.sort(list, at, stop);
            }
            for (int i = at; i < stop && told == SOLVED; i++) {
                int reply = list[i];
                long replied = board.make(reply);
                if (!isSolvable(n - 1, stop)) {
                    told = reply;
                }
                board.unmake(reply, replied);
            }
            board.unmake(move, made);
            return told;
        }

        /** Whether the first side, which is to move, is beaten in a self problem, or has a key in n moves. */
        private boolean isSolvable(int n, int at) {
            if (self && isBeaten(at)) {
                return true;
            }
            int stop = n > 0 ? board.legal(list, at, Board.MOST) : at;
            for (int i = at; i < stop; i++) {
                if (refuter(list[i], n, stop) == SOLVED) {
                    return true;
                }
            }
            return false;
        }

        /** Whether the side to move is beaten; the list is free from a place on. */
        private boolean isBeaten(int at) {
            // Most positions fail at the check already, which is sooner looked at than moves.
            return board.inCheck() == mate && board.legal(list, at, 1) == at;
        }

        /** Goes through all help lines with so many moves left, in order, up to the one that is wanted. */
        private void help(int left, int at) {
            if (left <= 0) {
                if (isBeaten(at)) {
                    found = lines == wanted;
                    lines++;
                }
                return;
            }
            int stop = board.legal(list, at, Board.MOST);
            board.sort(list, at, stop);
            for (int i = at; i < stop && !found; i++) {
                int move = list[i];
                chain[2 * asked - left] = move;
                long made = board.make(move);
                help(left - 1, stop);
                board.unmake(move, made);
            }
        }
    }

    /**
     * Looks up endings of two kings and one man, which is taken for white's. A table holds for each position 1 more
     * than its distance to mate, 0 for those that are drawn; positions that are alike by mirrors are held once.
     */
    private static final class Endings {
        private static final int LAYERS = 120;
        private static final int[] STEPS = {8, -8, 1, -1, 9, 7, -7, -9};
        /** The squares of a corner in which some mirror puts any square. */
        private static final int[] CORNER = {0, 1, 9, 2, 10, 18, 3, 11, 19, 27};

        int distance;
        int bestMove;
        private final int[] list = new int[Board.MOST];
        private byte[] queens;
        private byte[] rooks;
        private byte[] pawns;
        private byte[] table;
        private int[] queue = new int[0];
        private int tail;
        private int kind;

        /** Makes the tables that the man of an ending asks for; knights and bishops mate nobody and need none. */
        void prepare(Board board) {
            int man = board.men[manSquare(board)] & 7;
            if (queens == null && (man == 5 || man == 1)) {
                queens = build(5);
            }
            if (rooks == null && (man == 4 || man == 1)) {
                rooks = build(4);
            }
            if (pawns == null && man == 1) {
                pawns = build(1);
            }
        }

        /** Finds the distance and the best move of an ending; the best move is -1 if there is none. */
        void look(Board board) {
            int strong = board.men[manSquare(board)] >> 3;
            int turn = strong == 0 ? 0 : 56 << 9 | 56 << 3;
            int rights = board.rights;
            board.rights = 0;
            distance = distanceOf(board, strong);
            bestMove = -1;
            int bestKey = 0;
            int stop = board.legal(list, 0, Board.MOST);
            for (int i = 0; i < stop; i++) {
                list[i] ^= turn;
            }
            board.sort(list, 0, stop);
            for (int i = 0; i < stop; i++) {
                int move = list[i] ^ turn;
                long undo = board.make(move);
                int behind = distanceOf(board, strong);
                board.unmake(move, undo);
                int key = behind < 0 ? LAYERS : behind;
                if (bestMove < 0 || (board.side == strong ? key < bestKey : key > bestKey)) {
                    bestMove = move;
                    bestKey = key;
                }
            }
            board.rights = rights;
        }

        /** Where the man beside the kings stands; where a king does, if it was taken. */
        private static int manSquare(Board board) {
            for (int square = 0; square < 64; square++) {
                int man = board.men[square] & 7;
                if (man != 0 && man != 6) {
                    return square;
                }
            }
            return board.king[0];
        }

        /** The distance to mate of a board with at most one man beside the kings, or -1. */
        private int distanceOf(Board board, int strong) {
            int flip = strong == 0 ? 0 : 56;
            int square = manSquare(board);
            return distanceAt(board.men[square] & 7, board.king[strong] ^ flip, square ^ flip,
                    board.king[1 - strong] ^ flip, board.side == strong ? 0 : 1);
        }

        private int distanceAt(int man, int white, int square, int black, int mover) {
            byte[] known = man == 5 ? queens : man == 4 ? rooks : man == 1 ? pawns : null;
            if (known == null) {
                return -1;
            }
            return known[index(man, white, square, black, mover)] - 1;
        }

        /** The place of a position in its table; mover 0 is the side with the man. */
        private static int index(int man, int white, int square, int black, int mover) {
            if (man == 1) {
                int flip = (square & 7) > 3 ? 7 : 0;
                int pawn = square ^ flip;
                int place = (pawn >> 3) * 4 - 4 + (pawn & 7);
                return ((place * 64 + (white ^ flip)) * 64 + (black ^ flip)) * 2 + mover;
            }
            int flip = ((black & 7) > 3 ? 7 : 0) | (black >> 3 > 3 ? 56 : 0);
            int b = black ^ flip;
            int w = white ^ flip;
            int s = square ^ flip;
            int above = (b >> 3) - (b & 7);
            above = above != 0 ? above : (w >> 3) - (w & 7);
            above = above != 0 ? above : (s >> 3) - (s & 7);
            if (above > 0) {
                b = (b & 7) << 3 | b >> 3;
                w = (w & 7) << 3 | w >> 3;
                s = (s & 7) << 3 | s >> 3;
            }
            int file = b & 7;
            int place = file * (file + 1) / 2 + (b >> 3);
            return ((place * 64 + w) * 64 + s) * 2 + mover;
        }

        /** Makes a table backwards from the mates, one distance behind the other. */
        private byte[] build(int man) {
            kind = man;
            table = new byte[(man == 1 ? 24 : CORNER.length) * 8192];
            if (queue.length < table.length) {
                queue = new int[table.length];
            }
            tail = 0;
            seed();
            int head = 0;
            for (int layer = 0; layer < LAYERS; layer++) {
                if (man == 1) {
                    bringIn(layer);
                }
                for (int stop = tail; head < stop; head++) {
                    int place = queue[head];
                    int high = place >> 13;
                    int low = place >> 1 & 63;
                    int white = place >> 7 & 63;
                    int square = man == 1 ? (high >> 2) * 8 + 8 + (high & 3) : low;
                    int black = man == 1 ? low : CORNER[high];
                    if ((place & 1) == 0) {
                        blackBefore(white, square, black, layer + 1);
                    } else {
                        whiteBefore(white, square, black, layer + 1);
                        manBefore(white, square, black, layer + 1);
                    }
                }
            }
            return table;
        }

        /** Finds the mates, and what pawns come to that can become another man. */
        private void seed() {
            for (int place = 0; place < table.length / 2; place++) {
                int high = place >> 12;
                int low = place & 63;
                int white = place >> 6 & 63;
                int square = kind == 1 ? (high >> 2) * 8 + 8 + (high & 3) : low;
                int black = kind == 1 ? low : CORNER[high];
                if (white == square || black == square || isNear(white, black)) {
                    continue;
                }
                if (hits(square, black, white)) {
                    if (isLost(white, square, black)) {
                        mark(index(kind, white, square, black, 1), 0);
                    }
                } else if (kind == 1 && square > 47 && square + 8 != white && square + 8 != black) {
                    int queen = distanceAt(5, white, square + 8, black, 1);
                    int rook = distanceAt(4, white, square + 8, black, 1);
                    int least = queen < 0 || rook >= 0 && rook < queen ? rook : queen;
                    if (least >= 0) {
                        // It waits as a number below 0 until its distance has its turn.
                        table[index(1, white, square, black, 0)] = (byte) (-least - 2);
                    }
                }
            }
        }

        private void bringIn(int layer) {
            for (int place = 20 * 8192; place < table.length; place += 2) {
                if (table[place] == -layer - 1) {
                    mark(place, layer);
                }
            }
        }

        private void mark(int place, int far) {
            if (table[place] <= 0 && tail < queue.length) {
                table[place] = (byte) (far + 1);
                queue[tail] = place;
                tail++;
            }
        }

        private static boolean isNear(int a, int b) {
            int along = (a & 7) - (b & 7);
            int up = (a >> 3) - (b >> 3);
            return along <= 1 && along >= -1 && up <= 1 && up >= -1;
        }

        private static boolean isStep(int from, int to) {
            int along = (from & 7) - (to & 7);
            return to >= 0 && to < 64 && along <= 1 && along >= -1;
        }

        /** Whether the man attacks a square, past the white king. */
        private boolean hits(int square, int goal, int white) {
            int along = (goal & 7) - (square & 7);
            int up = (goal >> 3) - (square >> 3);
            if (kind == 1) {
                return up == 1 && (along == 1 || along == -1);
            }
            boolean straight = along == 0 || up == 0;
            boolean slanting = along == up || along == -up;
            if (square == goal || !straight && (kind == 4 || !slanting)) {
                return false;
            }
            int step = (up > 0 ? 8 : up < 0 ? -8 : 0) + (along > 0 ? 1 : along < 0 ? -1 : 0);
            int at = square + step;
            for (int i = 0; i < 7 && at != goal; i++) {
                if (at == white) {
                    return false;
                }
                at += step;
            }
            return true;
        }

        /** Whether each legal move of black leads to a position that has its distance already. */
        private boolean isLost(int white, int square, int black) {
            for (int i = 0; i < 8; i++) {
                int to = black + STEPS[i];
                if (!isStep(black, to) || isNear(to, white) || hits(square, to, white)) {
                    continue;
                }
                if (to == square || table[index(kind, white, square, to, 0)] <= 0) {
                    return false;
                }
            }
            return true;
        }

        private void blackBefore(int white, int square, int black, int far) {
            for (int i = 0; i < 8; i++) {
                int from = black + STEPS[i];
                if (isStep(black, from) && from != square && !isNear(from, white)) {
                    int place = index(kind, white, square, from, 1);
                    if (table[place] == 0 && isLost(white, square, from)) {
                        mark(place, far);
                    }
                }
            }
        }

        private void whiteBefore(int white, int square, int black, int far) {
            for (int i = 0; i < 8; i++) {
                int from = white + STEPS[i];
                if (isStep(white, from) && from != square && !isNear(from, black) && !hits(square, black, from)) {
                    mark(index(kind, from, square, black, 0), far);
                }
            }
        }

        private void manBefore(int white, int square, int black, int far) {
            int steps = kind == 1 ? 1 : kind == 4 ? 4 : 8;
            for (int i = 0; i < steps; i++) {
                int step = kind == 1 ? -8 : STEPS[i];
                int most = kind != 1 ? 7 : square >> 3 == 3 ? 2 : square >> 3 > 1 ? 1 : 0;
                int at = square;
                for (int away = 0; away < most; away++) {
                    int from = at + step;
                    if (!isStep(at, from) || from == white || from == black) {
                        break;
                    }
                    at = from;
                    if (!hits(at, black, white)) {
                        mark(index(kind, white, at, black, 0), far);
                    }
                }
            }
        }
    }
}
