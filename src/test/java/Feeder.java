/** Feeds texts as a caller of the face must: the bytes of three longs at a time. */
final class Feeder {
    private Feeder() {
    }

    static long pack(String text, int from) {
        long row = 0;
        for (int i = from; i < from + 8; i++) {
            row = row << 8 | (i < text.length() ? text.charAt(i) & 255 : 0);
        }
        return row;
    }

    /** How many signs the tape has behind it. */
    static int feed(StationStarter starter, String text) {
        int signs = starter.count(13);
        for (int i = 0; i < text.length(); i += 24) {
            signs = starter.feed(pack(text, i), pack(text, i + 8), pack(text, i + 16));
        }
        return signs;
    }

    static int station(StationStarter starter, String text) {
        feed(starter, text);
        return starter.station();
    }
}
