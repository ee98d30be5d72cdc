/** What the tests by rows share: an edge has the document's words and rows of answers that are due. */
abstract class Rows {
    static final String EMPTY = "8./8./8./8./8./8./8./8.";
    /** a at 0, b at 7, c at 56; no walls. */
    static final String THREE = "a6.b/8./8./8./8./8./8./c7.";

    private static int wrong = 0;
    private static int edges = 0;
    private static String edge = "";
    private static int row = 0;

    /** The rows that come next are about these words. */
    static void edge(String words) {
        edges++;
        edge = words;
        row = 0;
    }

    static void due(long got, long want) {
        row++;
        if (got != want) {
            wrong++;
            System.out.println(edge + ", row " + row + ": answered " + got + ", due is " + want);
        }
    }

    static void due(boolean got, boolean want) {
        due(got ? 1 : 0, want ? 1 : 0);
    }

    /** Ends the program: with 1 if a row was wrong. */
    static void tell() {
        System.out.println(edges + " edges; "
            + (wrong == 0 ? "all answers are as due" : wrong + " answers are not as due"));
        if (wrong != 0) {
            System.exit(1);
        }
    }

    static void feed(GhostQuarter q, String bytes) {
        for (int i = 0; i < bytes.length(); i += 20) {
            int[] n = new int[5];
            for (int j = 0; j < 20; j++) {
                int sign = i + j < bytes.length() ? bytes.charAt(i + j) : 0;
                n[j / 4] = n[j / 4] << 8 | sign & 255;
            }
            q.feed(n[0], n[1], n[2], n[3], n[4]);
        }
    }

    /** Bytes onto an empty tape, zeros behind them. */
    static void tape(GhostQuarter q, String bytes) {
        q.check(0);
        feed(q, bytes);
    }

    static String bytes(int... numbers) {
        StringBuilder b = new StringBuilder();
        for (int number : numbers) {
            b.append((char) number);
        }
        return b.toString();
    }

    static String times(String s, int many) {
        StringBuilder b = new StringBuilder();
        for (int i = 0; i < many; i++) {
            b.append(s);
        }
        return b.toString();
    }

    static int quarter(GhostQuarter q, String text) {
        tape(q, text);
        return q.quarter(text.length());
    }

    static int walk(GhostQuarter q, int h, String text) {
        tape(q, text);
        return q.walk(h, text.length());
    }

    static int law(GhostQuarter q, String text) {
        tape(q, text);
        return q.law(text.length());
    }

    static GhostQuarter with(String quarter, String law) {
        GhostQuarter q = new GhostQuarter();
        boolean read = quarter(q, quarter) >= 0;
        if (!law.isEmpty()) {
            read &= law(q, law) >= 0;
        }
        due(read, true);
        return q;
    }
}
