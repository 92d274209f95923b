import java.lang.reflect.Constructor;
import java.lang.reflect.Field;
import java.lang.reflect.Method;
import java.lang.reflect.Modifier;
import java.util.Arrays;
import java.util.TreeSet;

/** Promises 1, 2, 4 and 5, the edges of promise 3, and the first rule of the language: the face and nothing more. */
public final class FaceTest {
    private static final Checks CHECKS = new Checks();
    private static final String FIRST = "rnbqkbnr/pppppppp/8/8/8/8/PPPPPPPP/RNBQKBNR w KQkq - 0 1";
    private static final int FULL = 65536;

    public static void main(String[] args) {
        newObject();
        feedingInOrder();
        feedingAllBytes();
        fullTape();
        endingTooMuch();
        endingPartOfTheTape();
        endingNothing();
        countingFaults();
        readingOut();
        throwingChangesNothing();
        lastCalls();
        lastLines();
        oddBytes();
        fullOut();
        cutAnswers();
        face();
        CHECKS.finish("FaceTest");
    }

    private static int tell(ChessHouse object, String text) {
        House.feed(object, House.bytesOf(text));
        return object.end(text.length());
    }

    private static String read(ChessHouse object) {
        StringBuilder text = new StringBuilder();
        int size = object.size();
        for (int i = 0; i < size; i++) {
            text.append((char) object.out(i));
        }
        return text.toString();
    }

    /** Promise 1: the usual first position, as behind new; the TAPE and OUT are empty. */
    private static void newObject() {
        ChessHouse object = new ChessHouse();
        CHECKS.same("size of a new object", object.size(), 0);
        CHECKS.throwsJust("out(0) of a new object", IndexOutOfBoundsException.class, () -> object.out(0));
        CHECKS.throwsJust("out(-1) of a new object", IndexOutOfBoundsException.class, () -> object.out(-1));
        CHECKS.throwsJust("end(1) of a new object", IllegalArgumentException.class, () -> object.end(1));
        CHECKS.throwsJust("end(-1) of a new object", IllegalArgumentException.class, () -> object.end(-1));
        CHECKS.same("end(0) of a new object", object.end(0), 0);
        CHECKS.same("size behind it", object.size(), 0);
        tell(object, "fen\n");
        CHECKS.same("fen of a new object", read(object), "= " + FIRST + "\n");
        String all = "fen\nwrite\nstate\nothers\nmoves\nback 1\ngo 1\nmark 1\nlead\nsay\nsight\n";
        CHECKS.same("a new object is as behind new", new House().ask(all), new House().ask("new\n" + all).substring(2));
        ChessHouse other = new ChessHouse();
        tell(object, "play e4\n");
        tell(other, "fen\n");
        CHECKS.same("objects have nothing to do with one another", read(other), "= " + FIRST + "\n");
    }

    /** Promise 2: twenty bytes, of each number the highest one first. */
    private static void feedingInOrder() {
        ChessHouse object = new ChessHouse();
        object.feed(0x73617920, 0x61626364, 0x65666768, 0x696a6b6c, 0x6d6e6f70);
        CHECKS.throwsJust("end(21) behind one feed", IllegalArgumentException.class, () -> object.end(21));
        CHECKS.same("end(20) behind one feed", object.end(20), 0);
        CHECKS.same("its answer", read(object), "= 16\n");
        tell(object, "write\n");
        CHECKS.same("the bytes of all five numbers", read(object), "= 20\n{abcdefghijklmnop} *\n");
        object.feed(0x73617920, 0x61626364, 0x65666768, 0x696a6b6c, 0x6d6e6f70);
        object.feed(0x71727374, 0x75767778, 0x797a3031, 0x32333435, 0x36373839);
        CHECKS.throwsJust("end(41) behind two feeds", IllegalArgumentException.class, () -> object.end(41));
        CHECKS.same("end(40) behind two feeds", object.end(40), 0);
        tell(object, "write\n");
        CHECKS.same("the second twenty come behind the first", read(object),
                "= 40\n{abcdefghijklmnopqrstuvwxyz0123456789} *\n");
        object.feed(0x73617920, 0x61626364, 0x65666768, 0x696a6b6c, 0x6d6e6f70);
        CHECKS.same("end(19): the last byte is left out", object.end(19), 0);
        CHECKS.same("its answer", read(object), "= 15\n");
    }

    /** Numbers below 0 and at the ends of int are four bytes like all others. */
    private static void feedingAllBytes() {
        for (int number : new int[] {-1, Integer.MIN_VALUE, Integer.MAX_VALUE, 0, 0x0a0a0a00, 0x000a0a0a, 0x20202080}) {
            ChessHouse object = new ChessHouse();
            object.feed(0x6e65770a, number, 0x0a6e6577, 0x0a0a0a0a, number);
            CHECKS.same("a line with the bytes of " + number, object.end(20), 2);
            CHECKS.same("its answers", read(object), "=\n? 1\n=\n? 1\n");
        }
        ChessHouse object = new ChessHouse();
        object.feed(0x0a0a0a0a, 0x0a0a0a0a, 0x0a0a0a0a, 0x0a0a0a0a, 0x0a0a0a0a);
        CHECKS.same("twenty line ends", object.end(20), 0);
        CHECKS.same("answer nothing", object.size(), 0);
    }

    /**
     * Promise 2: no more than 65536 bytes, which is 3276 feeds. (What an object answers behind its 512th call is free;
     * here it keeps the promise all the same.)
     */
    private static void fullTape() {
        ChessHouse object = new ChessHouse();
        tell(object, "play e4\n");
        House.feed(object, new byte[65500]);
        House.feed(object, House.bytesOf("\nback 0\nfen\n.\n.\n.\n.\n"));
        CHECKS.throwsJust("feed number 3277", UnsupportedOperationException.class,
                () -> object.feed(0x0a6e6577, 0x0a6e6577, 0x0a6e6577, 0x0a6e6577, 0x0a6e6577));
        CHECKS.same("it leaves OUT", read(object), "= 1\n");
        CHECKS.throwsJust("end(65521)", IllegalArgumentException.class, () -> object.end(65521));
        CHECKS.throwsJust("end(65536)", IllegalArgumentException.class, () -> object.end(65536));
        CHECKS.throwsJust("feed once more", UnsupportedOperationException.class, () -> object.feed(0, 0, 0, 0, 0));
        CHECKS.same("the whole tape", object.end(65520), 5);
        CHECKS.same("its answers", read(object), "? 1\n= 1\n"
                + "= rnbqkbnr/pppppppp/8/8/4P3/8/PPPP1PPP/RNBQKBNR b KQkq - 0 1\n? 1\n? 1\n? 1\n? 1\n");
        byte[] ends = new byte[65520];
        Arrays.fill(ends, (byte) 10);
        House.feed(object, ends);
        CHECKS.same("a whole tape of empty lines", object.end(65520), 0);
        CHECKS.same("which answer nothing", object.size(), 0);
    }

    /** Promise 3: an exception when n is negative, or the TAPE has not so many. */
    private static void endingTooMuch() {
        ChessHouse object = new ChessHouse();
        House.feed(object, House.bytesOf("fen\nmoves\n"));
        for (int n : new int[] {-1, -2, Integer.MIN_VALUE, 21, 22, 40, FULL, FULL + 1, Integer.MAX_VALUE}) {
            CHECKS.throwsJust("end(" + n + ") of 20 bytes", IllegalArgumentException.class, () -> object.end(n));
        }
        CHECKS.same("all of the tape is still there", object.end(20), 1);
        CHECKS.same("its answers (zeros are a line, too)", read(object), "= " + FIRST + "\n= 20 Na3 Nc3 Nf3 Nh3 a3 a4 "
                + "b3 b4 c3 c4 d3 d4 e3 e4 f3 f4 g3 g4 h3 h4\n? 1\n");
        CHECKS.throwsJust("the tape is empty then", IllegalArgumentException.class, () -> object.end(1));
        CHECKS.same("which leaves OUT", object.size(), 2 + FIRST.length() + 1 + 69 + 4);
    }

    private static void endingPartOfTheTape() {
        ChessHouse object = new ChessHouse();
        House.feed(object, House.bytesOf("play e4 e5\nback 0\n"));
        CHECKS.same("a line that is cut off by n", object.end(7), 0);
        CHECKS.same("its answer", read(object), "= 1\n");
        CHECKS.throwsJust("the rest is gone", IllegalArgumentException.class, () -> object.end(1));
        House.feed(object, House.bytesOf("play e5 Nf3 Nc6\n"));
        CHECKS.same("one that is cut behind a space", object.end(8), 1);
        CHECKS.same("its answer", read(object), "? 1\n");
        House.feed(object, House.bytesOf("back 0\nback 1\n"));
        CHECKS.same("one byte of a command", object.end(1), 1);
        House.feed(object, House.bytesOf("back 0\nback 1\n"));
        CHECKS.same("up to its line end", object.end(6), 0);
        CHECKS.same("its answer", read(object), "= 1\n");
        House.feed(object, House.bytesOf("back 0\nback 1\n"));
        CHECKS.same("and with its line end", object.end(7), 0);
        CHECKS.same("its answer", read(object), "= 1\n");
        House.feed(object, House.bytesOf("back 0\nback 1\n"));
        CHECKS.same("and with one byte more", object.end(8), 1);
        CHECKS.same("its answers", read(object), "= 1\n? 1\n");
        CHECKS.same("new bytes come to the beginning", tell(object, "back 1\n"), 0);
        CHECKS.same("their answer", read(object), "= 0\n");
    }

    private static void endingNothing() {
        ChessHouse object = new ChessHouse();
        tell(object, "sight\n");
        CHECKS.same("end(0)", object.end(0), 0);
        CHECKS.same("OUT is empty then", object.size(), 0);
        CHECKS.throwsJust("out(0) then", IndexOutOfBoundsException.class, () -> object.out(0));
        tell(object, "sight\n");
        House.feed(object, House.bytesOf("play e4\n"));
        CHECKS.same("end(0) with bytes on the tape", object.end(0), 0);
        CHECKS.same("OUT is empty then", object.size(), 0);
        CHECKS.throwsJust("the tape, too", IllegalArgumentException.class, () -> object.end(1));
        tell(object, "back 0\n");
        CHECKS.same("nothing of it was done", read(object), "= 0\n");
    }

    private static void countingFaults() {
        ChessHouse object = new ChessHouse();
        CHECKS.same("no fault", tell(object, "new\nsight\n"), 0);
        CHECKS.same("one", tell(object, "new\nback 1\n"), 1);
        CHECKS.same("each kind of answer that has a ?", tell(object, "x\nplay e9\nplay e4+\nset x\ngame\nx\n.\nback 1\n"
                + "think 4\nnew\n"), 7);
        CHECKS.same("those of this call alone", tell(object, "new\n"), 0);
        CHECKS.same("empty lines are none", tell(object, "\n\n\n"), 0);
    }

    /** Promises 4 and 5. */
    private static void readingOut() {
        ChessHouse object = new ChessHouse();
        tell(object, "new\n");
        CHECKS.same("size of =", object.size(), 2);
        CHECKS.same("out(0)", object.out(0), (int) '=');
        CHECKS.same("out(1)", object.out(1), 10);
        for (int i : new int[] {2, 3, -1, -2, Integer.MAX_VALUE, Integer.MIN_VALUE, FULL - 1, FULL, FULL + 1}) {
            CHECKS.throwsJust("out(" + i + ") of 2 bytes", IndexOutOfBoundsException.class, () -> object.out(i));
        }
        CHECKS.same("size asked again", object.size(), 2);
        CHECKS.same("out(0) asked again", object.out(0), (int) '=');
        House.feed(object, House.bytesOf("fen\n"));
        CHECKS.same("OUT stays while the tape is fed", read(object), "=\n");
        object.end(4);
        CHECKS.same("a longer OUT", object.size(), FIRST.length() + 3);
        CHECKS.same("its last byte", object.out(FIRST.length() + 2), 10);
        CHECKS.throwsJust("the byte behind it", IndexOutOfBoundsException.class,
                () -> object.out(FIRST.length() + 3));
        tell(object, "new\n");
        CHECKS.throwsJust("out(2): nothing of the longer one is left", IndexOutOfBoundsException.class,
                () -> object.out(2));
    }

    /** A call that throws changes nothing: neither the TAPE, nor OUT, nor the game. */
    private static void throwingChangesNothing() {
        ChessHouse object = new ChessHouse();
        tell(object, "play e4 e5\nmark 3\nsay x\nback 1\n");
        House.feed(object, House.bytesOf("back 0\nwrite\n"));
        for (int n : new int[] {-1, 21, Integer.MIN_VALUE, Integer.MAX_VALUE}) {
            CHECKS.throwsJust("end(" + n + ")", IllegalArgumentException.class, () -> object.end(n));
        }
        for (int i : new int[] {-1, 16, Integer.MIN_VALUE, Integer.MAX_VALUE}) {
            CHECKS.throwsJust("out(" + i + ")", IndexOutOfBoundsException.class, () -> object.out(i));
        }
        CHECKS.same("OUT is as it was", read(object), "= 2\n= 1\n= 1\n= 1\n");
        CHECKS.same("the tape is as it was", object.end(13), 0);
        CHECKS.same("the game is as it was", read(object), "= 1\n= 17\n1. e4 e5 $3 {x} *\n");
    }

    /** An object is used for at most 512 calls: the last ones are answered like the first. */
    private static void lastCalls() {
        ChessHouse object = new ChessHouse();
        String talk = "say " + "x".repeat(200) + "\n" + "\n".repeat(10000) + "play e4\nback 2\n";
        House.feed(object, House.bytesOf(talk));
        CHECKS.same("511 feeds, and call 512 has them done", talk.length() + " " + object.end(10220), "10220 1");
        ChessHouse reader = new ChessHouse();
        tell(reader, "fen\n");
        for (int call = 3; call < 511; call++) {
            CHECKS.same("call " + call, reader.out(call % 59), (int) ("= " + FIRST + "\n").charAt(call % 59));
        }
        CHECKS.throwsJust("call 511", IndexOutOfBoundsException.class, () -> reader.out(59));
        CHECKS.same("call 512", reader.size(), 59);
        ChessHouse player = new ChessHouse();
        for (int call = 1; call < 511; call += 2) {
            int[] line = {0x706c6179, 0x204e6633, 0x204e6636, 0x204e6731, 0x204e6738};
            player.feed(line[0], line[1], line[2], line[3], line[4]);
            CHECKS.same("call " + (call + 1), player.end(20), call < 150 ? 0 : 1);
        }
        CHECKS.same("call 511: 300 moves and no more", player.size(), "? 4 1\n".length());
        CHECKS.same("call 512", player.out(2), (int) '4');
    }

    /** A text's lines: each up to the next byte 10 or to the end of the text. */
    private static void lastLines() {
        CHECKS.same("no line at all", new House().ask(""), "");
        CHECKS.same("an empty line alone", new House().ask("\n"), "");
        CHECKS.same("a last line without its end", new House().ask("new\nsight"), "=\n= 10\n");
        CHECKS.same("a last line with its end", new House().ask("new\nsight\n"), "=\n= 10\n");
        CHECKS.same("an empty last line", new House().ask("new\nsight\n\n"), "=\n= 10\n");
        CHECKS.same("empty lines between", new House().ask("\n\nnew\n\n\nsight\n\n"), "=\n= 10\n");
        CHECKS.same("a line of one space is not empty", new House().ask("new\n \nsight"), "=\n? 1\n= 10\n");
        CHECKS.same("a text that is cut off", new House().ask("new\nsigh"), "=\n? 1\n");
        CHECKS.same("say without its end", new House().ask("say"), "= 0\n");
        CHECKS.same("set without its end", new House().ask("set 4k3/8/8/8/8/8/8/4K3 w - - 0 1"), "=\n");
        CHECKS.same("a game without a dot and line end", new House().ask("game\ne4 *"), "= 1\n");
        CHECKS.same("a game without a dot", new House().ask("game\ne4 *\n"), "= 1\n");
        CHECKS.same("a game up to a dot without line end", new House().ask("game\ne4 *\n."), "= 1\n");
        CHECKS.same("a dot in a text is part of it", new House().ask("game\ne4 *\n. \n.\nsight\n"), "? 6 1 5\n= 10\n");
        CHECKS.same("a dot behind a space, too", new House().ask("game\ne4 *\n .\n.\nsight\n"), "? 6 1 6\n= 10\n");
        CHECKS.same("two dots, too", new House().ask("game\ne4 *\n..\n.\nsight\n"), "? 6 1 5\n= 10\n");
        CHECKS.same("game alone", new House().ask("game"), "? 6 1 0\n");
        CHECKS.same("game and its line end alone", new House().ask("game\n"), "? 6 1 0\n");
        CHECKS.same("game and an empty line", new House().ask("game\n\n"), "? 6 1 1\n");
        CHECKS.same("the length of a text is with its last line end", new House().ask("game\n\n\ne4"), "? 6 1 5\n");
        CHECKS.same("and the same if that was there", new House().ask("game\n\n\ne4\n"), "? 6 1 5\n");
        CHECKS.same("what follows the dot is done", new House().ask("game\n*\n.\n\nsight\n.\n"), "= 0\n= 10\n? 1\n");
        CHECKS.same("a remark up to the end of the text", new House().ask("game\n* ;x"), "? 6 1 2\n");
    }

    /** Lines have bytes 32 .. 126 alone, texts of games 10 besides. */
    private static void oddBytes() {
        for (char c : new char[] {0, 1, 9, 11, 13, 31, 127, 128, 129, 200, 255}) {
            CHECKS.same("say with byte " + (int) c, new House().ask("say a" + c + "\nback 0\n"), "? 1\n= 0\n");
            CHECKS.same("sight and byte " + (int) c, new House().ask("sight" + c + "\n"), "? 1\n");
            CHECKS.same("byte " + (int) c + " and sight", new House().ask(c + "sight\n"), "? 1\n");
            CHECKS.same("byte " + (int) c + " alone", new House().ask(c + "\n"), "? 1\n");
            CHECKS.same("set with byte " + (int) c, new House().ask("set " + FIRST + c + "\n"), "? 1\n");
            CHECKS.same("tag with byte " + (int) c, new House().ask("tag A b" + c + "\nwrite\n"), "? 1\n= 1\n*\n");
            CHECKS.same("play with byte " + (int) c, new House().ask("play e4 " + c + "\nback 0\n"), "? 1\n= 0\n");
            CHECKS.same("game with byte " + (int) c + " behind it", new House().ask("game" + c + "\n*\n"),
                    "? 1\n? 1\n");
            CHECKS.same("game with byte " + (int) c,
                    new House().ask("game\n[A \"x\"][A \"x\"] e9 {" + c + "} *\n.\n"), "? 6 1 19\n");
            CHECKS.same("game with byte " + (int) c + " behind all", new House().ask("game\n*" + c + "\n.\nsight\n"),
                    "? 6 1 1\n= 10\n");
        }
        CHECKS.same("the first odd byte counts", new House().ask("game\n(\n\1\2\n.\nsight\n"), "? 6 1 2\n= 10\n");
        CHECKS.same("the lowest and highest byte of a text", new House().ask("say  ~\n"), "= 2\n");
        CHECKS.same("they are kept", new House().ask("say  ~\nwrite\n"), "= 2\n= 6\n{ ~} *\n");
        CHECKS.same("the same in a game", new House().ask("game\n{ ~} *\n.\nwrite\n"), "= 0\n= 6\n{ ~} *\n");
        CHECKS.same("words of bytes 33 and 126", new House().ask("play !\nplay ~\n"), "? 2 1\n? 2 1\n");
    }

    /** OUT has at most 65536 bytes; what would come behind them is left out. */
    private static void fullOut() {
        String queens = "set 4k3/8/8/8/8/8/8/QQQQKQQQ w - - 0 1\n";
        ChessHouse object = new ChessHouse();
        tell(object, queens + "moves\n");
        int set = 2;
        int moves = object.size() - set;
        String tail = "? 5\n";
        for (int due = FULL - 2; due <= FULL + 5; due++) {
            int times = (due - set - tail.length() - 5) / moves;
            int rest = due - set - tail.length() - times * moves;
            // What is said so answers five bytes, table two of them.
            String odd = rest % 2 == 0 ? "" : "say ten signs!\n";
            String even = "table 0\n".repeat((rest - rest % 2 * 5) / 2);
            ChessHouse full = new ChessHouse();
            CHECKS.same("faults where " + due + " bytes would be",
                    tell(full, queens + "moves\n".repeat(times) + odd + even + "back 1\n"), 1);
            CHECKS.same("size where " + due + " bytes would be", full.size(), Math.min(due, FULL));
            for (int i = due - 4; i < due + 2; i++) {
                int place = i;
                String what = "byte " + i + " where " + due + " would be";
                if (i < Math.min(due, FULL)) {
                    CHECKS.same(what, full.out(i), (int) tail.charAt(i - due + 4));
                } else {
                    CHECKS.throwsJust(what, IndexOutOfBoundsException.class, () -> full.out(place));
                }
            }
            tell(full, "new\n");
            CHECKS.same("OUT behind a full one", read(full), "=\n");
        }
    }

    /** What is left out of OUT is done and counted all the same. */
    private static void cutAnswers() {
        ChessHouse object = new ChessHouse();
        String moves = "moves\n".repeat(950);
        CHECKS.same("faults behind the cut", tell(object, moves + "junk\nplay e4\nback 2\n"), 2);
        CHECKS.same("OUT is full", object.size(), FULL);
        tell(object, "back 0\n");
        CHECKS.same("what is left out is done", read(object), "= 1\n");
        ChessHouse writer = new ChessHouse();
        String talk = "say " + "x".repeat(200) + "\nplay e4\nsay " + "y".repeat(200) + "\n";
        CHECKS.same("a game that is written over the cut", tell(writer, talk + "write\n".repeat(200)), 0);
        CHECKS.same("OUT is full", writer.size(), FULL);
        tell(writer, "write\n");
        CHECKS.same("the next one is whole", writer.size(), "= 413\n".length() + 413 + 1);
    }

    private static void face() {
        TreeSet<String> open = new TreeSet<>();
        for (Method method : ChessHouse.class.getDeclaredMethods()) {
            if (!Modifier.isPrivate(method.getModifiers()) && !method.isSynthetic()) {
                open.add(method.toString());
            }
        }
        for (Constructor<?> constructor : ChessHouse.class.getDeclaredConstructors()) {
            if (!Modifier.isPrivate(constructor.getModifiers()) && !constructor.isSynthetic()) {
                open.add(constructor.toString());
            }
        }
        for (Field field : ChessHouse.class.getDeclaredFields()) {
            if (!Modifier.isPrivate(field.getModifiers()) && !field.isSynthetic()) {
                open.add(field.toString());
            }
        }
        CHECKS.same("the face", open.toString(), "[public ChessHouse(), "
                + "public int ChessHouse.end(int) throws java.lang.IllegalArgumentException, "
                + "public int ChessHouse.out(int) throws java.lang.IndexOutOfBoundsException, "
                + "public int ChessHouse.size(), "
                + "public void ChessHouse.feed(int,int,int,int,int) throws java.lang.UnsupportedOperationException]");
        CHECKS.same("the class is public and final", ChessHouse.class.getModifiers(),
                Modifier.PUBLIC | Modifier.FINAL);
        for (Class<?> inside : ChessHouse.class.getDeclaredClasses()) {
            int modifiers = inside.getModifiers();
            CHECKS.same(inside + " is not open", Modifier.isPublic(modifiers) || Modifier.isProtected(modifiers),
                    false);
            for (Field field : inside.getDeclaredFields()) {
                CHECKS.same(field + " is final if it is static",
                        !Modifier.isStatic(field.getModifiers()) || Modifier.isFinal(field.getModifiers()), true);
            }
        }
    }
}
