/** Texts on the tape, and rates as texts. */
final class Tape {
    private Tape() {
    }

    /** Types a text, up to eight signs at a time. */
    static void type(PortHouse x, String text) {
        for (int start = 0; start < text.length(); start += 8) {
            int n = Math.min(8, text.length() - start);
            long word = 0;
            for (int i = 0; i < n; i++) {
                word = word << 8 | text.charAt(start + i);
            }
            Check.due(true, x.type(word, n));
        }
    }

    /** What rate() answers to a text for a row. */
    static int rate(PortHouse x, int row, String text) {
        type(x, text);
        int answer = x.rate(row);
        Check.due(0, x.count(17));
        return answer;
    }

    /** A row's rate, printed. */
    static String printed(PortHouse x, int row) {
        StringBuilder s = new StringBuilder();
        for (int i = 0, n = x.print(row); i < n; i++) {
            s.append((char) x.printed(i));
        }
        return s.toString();
    }

    /** A house with one row for each land and day, kind 0, and this rate. */
    static PortHouse house(String text) {
        PortHouse x = new PortHouse(2, 4, 4, 4, 100);
        x.row(12, PortHouse.ALL, 0, PortHouse.OPEN, 0, 0, 0);
        Check.due(true, rate(x, 1, text) > 0);
        return x;
    }
}
