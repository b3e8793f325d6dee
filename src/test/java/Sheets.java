/** Puts texts into the buffer of a marker. */
final class Sheets {
  private Sheets() {
  }

  /** The bytes of up to four characters from an index on, packed as append wants them. */
  static int packed(String text, int from) {
    int word = 0;
    for (int i = from; i < text.length() && i < from + 4; i++) {
      word = word << 8 | text.charAt(i);
    }
    return word;
  }

  static void put(ExamMarker x, String text) {
    for (int i = 0; i < text.length(); i += 4) {
      x.append(packed(text, i));
    }
  }
}
