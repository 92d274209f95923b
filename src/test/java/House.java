import java.nio.charset.StandardCharsets;
import java.util.Arrays;

/**
 * A house that is spoken to in texts. The document promises nothing behind the 512th call of an object, so behind it,
 * and whenever it is asked for, another object takes over: it is told again what shall be kept, and answers on.
 */
final class House {
    static final int MOST_CALLS = 512;

    private final StringBuilder kept = new StringBuilder();
    private ChessHouse object;
    private int calls;
    int faults;

    /** Has a text done, which is kept, and answers all of OUT. */
    String ask(String text) {
        String out = look(text);
        keep(text);
        return out;
    }

    /** Has a text done that is not kept: the objects that come later are not told of it. */
    String look(String text) {
        byte[] bytes = bytesOf(text);
        if (object == null || calls + feedsOf(bytes) + 3 > MOST_CALLS) {
            takeOver();
        }
        faults = perform(bytes);
        int size = object.size();
        calls++;
        StringBuilder out = new StringBuilder();
        while (out.length() < size) {
            if (calls == MOST_CALLS) {
                takeOver();
                perform(bytes);
            }
            out.append((char) object.out(out.length()));
            calls++;
        }
        return out.toString();
    }

    /** Keeps a text that was done for the objects that come later. */
    void keep(String text) {
        kept.append(closed(text));
    }

    /** Forgets all that was kept, as behind a command that begins a new game. */
    void forget() {
        kept.setLength(0);
    }

    private void takeOver() {
        object = new ChessHouse();
        calls = 0;
        perform(bytesOf(kept.toString()));
    }

    private int perform(byte[] bytes) {
        if (calls + feedsOf(bytes) + 2 > MOST_CALLS) {
            throw new IllegalStateException("this talk is too long for 512 calls");
        }
        feed(object, bytes);
        calls += feedsOf(bytes) + 1;
        return object.end(bytes.length);
    }

    static byte[] bytesOf(String text) {
        return text.getBytes(StandardCharsets.ISO_8859_1);
    }

    private static int feedsOf(byte[] bytes) {
        return (bytes.length + 19) / 20;
    }

    static void feed(ChessHouse object, byte[] bytes) {
        for (int at = 0; at < bytes.length; at += 20) {
            byte[] part = Arrays.copyOf(Arrays.copyOfRange(bytes, at, Math.min(at + 20, bytes.length)), 20);
            int[] numbers = new int[5];
            for (int i = 0; i < 20; i++) {
                numbers[i / 4] = numbers[i / 4] << 8 | part[i] & 255;
            }
            object.feed(numbers[0], numbers[1], numbers[2], numbers[3], numbers[4]);
        }
    }

    /** A text with the ends of its last line and of a game in it, so that another text can come behind it. */
    static String closed(String text) {
        boolean inGame = false;
        for (String line : text.split("\n", -1)) {
            inGame = inGame ? !line.equals(".") : line.equals("game");
        }
        String whole = text.isEmpty() || text.endsWith("\n") ? text : text + "\n";
        return inGame ? whole + ".\n" : whole;
    }
}
