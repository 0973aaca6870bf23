import java.nio.ByteBuffer;
import java.nio.charset.StandardCharsets;
import java.util.Arrays;

/** Texts onto the TAPE, as a person would write them. */
final class Telling {
    private Telling() { }

    /** The TAPE is this text then, of at most 400 bytes. */
    static void tape(SleepersPay x, String text) {
        x.end(0);
        byte[] bytes = text.getBytes(StandardCharsets.ISO_8859_1);
        ByteBuffer b = ByteBuffer.wrap(Arrays.copyOf(bytes, (bytes.length + 19) / 20 * 20));
        while (b.remaining() >= 20) {
            x.feed(b.getInt(), b.getInt(), b.getInt(), b.getInt(), b.getInt());
        }
        x.end(bytes.length);
    }

    static int street(SleepersPay x, String text) {
        tape(x, text);
        return x.street();
    }

    static int rule(SleepersPay x, String text) {
        tape(x, text);
        return x.rule();
    }

    /** The answer to a text with that FAULT. */
    static int fault(int place, int kind) {
        return -2 - (1 + 8 * place + kind);
    }
}
