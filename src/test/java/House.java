import java.nio.charset.StandardCharsets;
import java.util.Arrays;

/** A ChessHouse that is spoken to in texts. */
final class House {
    final ChessHouse object = new ChessHouse();
    int faults;

    /** Feeds a text, has it done and answers all of OUT. */
    String ask(String text) {
        byte[] bytes = text.getBytes(StandardCharsets.ISO_8859_1);
        feed(bytes);
        faults = object.end(bytes.length);
        return out();
    }

    void feed(byte[] bytes) {
        for (int at = 0; at < bytes.length; at += 20) {
            byte[] part = Arrays.copyOf(Arrays.copyOfRange(bytes, at, Math.min(at + 20, bytes.length)), 20);
            int[] numbers = new int[5];
            for (int i = 0; i < 20; i++) {
                numbers[i / 4] = numbers[i / 4] << 8 | part[i] & 255;
            }
            object.feed(numbers[0], numbers[1], numbers[2], numbers[3], numbers[4]);
        }
    }

    String out() {
        StringBuilder text = new StringBuilder();
        for (int i = 0; i < object.size(); i++) {
            text.append((char) object.out(i));
        }
        return text.toString();
    }
}
