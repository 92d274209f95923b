import java.lang.reflect.Constructor;
import java.lang.reflect.Field;
import java.lang.reflect.Method;
import java.lang.reflect.Modifier;
import java.util.Arrays;
import java.util.TreeSet;

/** Promises 1, 2, 4 and 5, the edges of promise 3, and the first rule of the language: the face and nothing more. */
public final class FaceTest {
    private static final Checks CHECKS = new Checks();
    private static final String FIRST = "rnbqkbnr/pppppppp/8/8/8/8/PPPPPPPP/RNBQKBNR w KQkq - 0 1";

    public static void main(String[] args) {
        newObject();
        feeding();
        fullTape();
        ending();
        reading();
        lastLines();
        oddBytes();
        fullOut();
        face();
        CHECKS.finish("FaceTest");
    }

    private static void newObject() {
        House house = new House();
        CHECKS.same("size of a new object", house.object.size(), 0);
        CHECKS.throwsJust("out(0) of a new object", IndexOutOfBoundsException.class, () -> house.object.out(0));
        CHECKS.throwsJust("end(1) of a new object", IllegalArgumentException.class, () -> house.object.end(1));
        CHECKS.same("end(0) of a new object", house.object.end(0), 0);
        CHECKS.same("fen of a new object", new House().ask("fen\n"), "= " + FIRST + "\n");
        CHECKS.same("a new object is as behind new", new House().ask("fen\nwrite\nstate\nothers\nmoves\ngo 1\n"),
                new House().ask("new\nfen\nwrite\nstate\nothers\nmoves\ngo 1\n").substring(2));
        House other = new House();
        house.ask("play e4\n");
        CHECKS.same("objects have nothing to do with one another", other.ask("fen\n"), "= " + FIRST + "\n");
    }

    private static void feeding() {
        ChessHouse object = new ChessHouse();
        // "go 0" line end, "fen" line end, "go 0" ... with the highest byte of each number first.
        object.feed(0x676f2030, 0x0a66656e, 0x0a676f20, 0x310a0a0a, 0x6e65770a);
        CHECKS.same("faults of go 0, fen, go 1, new", object.end(20), 1);
        String due = "= 0\n= " + FIRST + "\n? 5\n=\n";
        CHECKS.same("size of their answers", object.size(), due.length());
        CHECKS.same("byte 0", object.out(0), (int) '=');
        CHECKS.same("byte 3", object.out(3), 10);
        object.feed(0x66656e0a, -1, Integer.MIN_VALUE, Integer.MAX_VALUE, 0);
        CHECKS.same("the tape was empty", object.end(4), 0);
        CHECKS.same("OUT has the last answers alone", object.size(), due.length() - 10);
        object.feed(0xffffffff, 0x80808080, 0, 0, 0);
        CHECKS.same("bytes above 127 are bytes", object.end(8), 1);
    }

    private static void fullTape() {
        House house = new House();
        house.feed(new byte[65520]);
        CHECKS.throwsJust("feed number 3277", UnsupportedOperationException.class,
                () -> house.object.feed(0, 0, 0, 0, 0));
        CHECKS.throwsJust("end(65521)", IllegalArgumentException.class, () -> house.object.end(65521));
        CHECKS.same("a whole tape of no command", house.object.end(65520), 1);
        CHECKS.same("its answer", house.out(), "? 1\n");
        byte[] ends = new byte[65520];
        Arrays.fill(ends, (byte) 10);
        house.feed(ends);
        CHECKS.same("a whole tape of empty lines", house.object.end(65520), 0);
        CHECKS.same("which answer nothing", house.object.size(), 0);
    }

    private static void ending() {
        House house = new House();
        house.feed("fen\nmoves\n".getBytes());
        CHECKS.throwsJust("end(-1)", IllegalArgumentException.class, () -> house.object.end(-1));
        CHECKS.throwsJust("end of the least number", IllegalArgumentException.class,
                () -> house.object.end(Integer.MIN_VALUE));
        CHECKS.throwsJust("end(21)", IllegalArgumentException.class, () -> house.object.end(21));
        CHECKS.throwsJust("end of the greatest number", IllegalArgumentException.class,
                () -> house.object.end(Integer.MAX_VALUE));
        CHECKS.same("the tape is still there", house.object.end(4), 0);
        CHECKS.same("the first 4 bytes are done", house.out(), "= " + FIRST + "\n");
        CHECKS.throwsJust("the rest is gone", IllegalArgumentException.class, () -> house.object.end(1));
        CHECKS.same("OUT is still there", house.out(), "= " + FIRST + "\n");
        CHECKS.same("end(0)", house.object.end(0), 0);
        CHECKS.same("OUT is empty then", house.object.size(), 0);
    }

    private static void reading() {
        House house = new House();
        house.ask("new\n");
        CHECKS.same("size of =", house.object.size(), 2);
        CHECKS.same("out(1)", house.object.out(1), 10);
        CHECKS.throwsJust("out(2)", IndexOutOfBoundsException.class, () -> house.object.out(2));
        CHECKS.throwsJust("out(-1)", IndexOutOfBoundsException.class, () -> house.object.out(-1));
        CHECKS.throwsJust("out of the greatest number", IndexOutOfBoundsException.class,
                () -> house.object.out(Integer.MAX_VALUE));
        CHECKS.throwsJust("out of the least number", IndexOutOfBoundsException.class,
                () -> house.object.out(Integer.MIN_VALUE));
        CHECKS.same("size asked twice", house.object.size(), 2);
        house.feed("fen\n".getBytes());
        CHECKS.same("OUT stays while the tape is fed", house.out(), "=\n");
    }

    private static void lastLines() {
        CHECKS.same("a last line without its end", new House().ask("new\nsight"), "=\n= 10\n");
        CHECKS.same("a text that is cut off", new House().ask("new\nsigh"), "=\n? 1\n");
        CHECKS.same("a game without a dot and line end", new House().ask("game\ne4 *"), "= 1\n");
        CHECKS.same("a game up to a dot without line end", new House().ask("game\ne4 *\n."), "= 1\n");
        CHECKS.same("a dot in a text is part of it", new House().ask("game\ne4 *\n. \n.\nsight\n"), "? 6 1 5\n= 10\n");
        CHECKS.same("game alone", new House().ask("game"), "? 6 1 0\n");
        CHECKS.same("the length of a text is with its last line end", new House().ask("game\n\n\ne4"), "? 6 1 5\n");
        CHECKS.same("what follows the dot is done", new House().ask("game\n*\n.\n\nsight\n.\n"), "= 0\n= 10\n? 1\n");
        CHECKS.same("a remark up to the end of the text", new House().ask("game\n* ;x"), "? 6 1 2\n");
    }

    private static void oddBytes() {
        for (char c : new char[] {0, 9, 13, 31, 127, 128, 200, 255}) {
            CHECKS.same("say with byte " + (int) c, new House().ask("say a" + c + "\n"), "? 1\n");
            CHECKS.same("sight and byte " + (int) c, new House().ask("sight" + c + "\n"), "? 1\n");
            CHECKS.same("set with byte " + (int) c, new House().ask("set " + FIRST + c + "\n"), "? 1\n");
            CHECKS.same("game with byte " + (int) c,
                    new House().ask("game\n[A \"x\"][A \"x\"] e9 {" + c + "} *\n.\n"), "? 6 1 19\n");
        }
        CHECKS.same("the first odd byte counts", new House().ask("game\n(\n\1\2\n.\nsight\n"), "? 6 1 2\n= 10\n");
        CHECKS.same("the lowest and highest byte of a text", new House().ask("say  ~\n"), "= 2\n");
    }

    private static void fullOut() {
        House house = new House();
        String moves = house.ask("moves\n");
        StringBuilder many = new StringBuilder();
        StringBuilder due = new StringBuilder();
        for (int i = 0; i < 1000; i++) {
            many.append("moves\n");
            due.append(moves);
        }
        CHECKS.same("OUT is cut at 65536 bytes", house.ask(many + "junk\nplay e4\n"), due.substring(0, 65536));
        CHECKS.same("faults behind the cut count", house.faults, 1);
        CHECKS.throwsJust("out(65536)", IndexOutOfBoundsException.class, () -> house.object.out(65536));
        CHECKS.same("what is left out is done all the same", house.ask("back 0\n"), "= 1\n");
    }

    private static void face() {
        TreeSet<String> open = new TreeSet<>();
        for (Method method : ChessHouse.class.getDeclaredMethods()) {
            if (!Modifier.isPrivate(method.getModifiers()) && !method.isSynthetic()) {
                open.add(method.toString());
            }
        }
        for (Constructor<?> constructor : ChessHouse.class.getDeclaredConstructors()) {
            if (!Modifier.isPrivate(constructor.getModifiers()) && !constructor.isSynthetic()) {
                open.add(constructor.toString());
            }
        }
        for (Field field : ChessHouse.class.getDeclaredFields()) {
            if (!Modifier.isPrivate(field.getModifiers()) && !field.isSynthetic()) {
                open.add(field.toString());
            }
        }
        CHECKS.same("the face", open.toString(), "[public ChessHouse(), "
                + "public int ChessHouse.end(int) throws java.lang.IllegalArgumentException, "
                + "public int ChessHouse.out(int) throws java.lang.IndexOutOfBoundsException, "
                + "public int ChessHouse.size(), "
                + "public void ChessHouse.feed(int,int,int,int,int) throws java.lang.UnsupportedOperationException]");
        CHECKS.same("the class is public and final", ChessHouse.class.getModifiers(),
                Modifier.PUBLIC | Modifier.FINAL);
        for (Class<?> inside : ChessHouse.class.getDeclaredClasses()) {
            int modifiers = inside.getModifiers();
            CHECKS.same(inside + " is static and not open", Modifier.isStatic(modifiers)
                    && !Modifier.isPublic(modifiers) && !Modifier.isProtected(modifiers), true);
            int fields = 0;
            for (Field field : inside.getDeclaredFields()) {
                boolean constant = Modifier.isStatic(field.getModifiers());
                fields += constant ? 0 : 1;
                CHECKS.same(field + " is final if it is static",
                        !constant || Modifier.isFinal(field.getModifiers()), true);
            }
            CHECKS.same(inside + " has at most 20 fields", fields <= 20, true);
        }
        CHECKS.same("at most 12 classes", ChessHouse.class.getDeclaredClasses().length < 12, true);
    }
}
