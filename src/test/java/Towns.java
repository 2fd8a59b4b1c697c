import java.nio.ByteBuffer;
import java.nio.charset.StandardCharsets;
import java.util.Arrays;

/** Texts told to an object, and rows filled, as tests need them. */
final class Towns {
  static final String BARE = "town opens 1 odds 0;";
  static final String BOOK = BARE + "book pages 1 by 0;";

  private Towns() { }

  /** The bytes come in twenties, the last ones filled up: the answer of the last feed. */
  static int feedAll(FootNotes x, String text) {
    byte[] bytes = text.getBytes(StandardCharsets.ISO_8859_1);
    ByteBuffer b = ByteBuffer.wrap(Arrays.copyOf(bytes, (bytes.length + 19) / 20 * 20));
    int last = 0;
    while (b.hasRemaining()) last = x.feed(b.getInt(), b.getInt(), b.getInt(), b.getInt(), b.getInt());
    return last;
  }

  static int tell(FootNotes x, String text) {
    x.end(0);
    feedAll(x, text);
    x.end(text.length());
    return x.town();
  }

  static FootNotes of(String text) {
    FootNotes x = new FootNotes();
    int lines = tell(x, text);
    if (lines <= 0) throw new IllegalStateException("town() answered " + lines + " to " + text);
    return x;
  }

  /** A town without costs or odds, of one book. */
  static FootNotes ofPages(int pages, String lines) {
    return of(BARE + "book pages " + pages + " by 0;" + lines);
  }

  static void row(FootNotes x, int slot, int width, long... numbers) {
    if (x.row(slot, width, numbers.length) != 0) throw new IllegalStateException("no row");
    for (int i = 0; i < numbers.length; i++)
      if (x.write(slot, i, numbers[i]) != 0) throw new IllegalStateException("not written");
  }
}
