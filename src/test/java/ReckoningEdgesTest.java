/** The edges that the document names for ROTAS, RUMOURS, TAX, LEDGER, what is KEPT and counted (promises 19 to 30). */
public final class ReckoningEdgesTest extends Rows {
    private static final int[] FAR_OFF = {Integer.MIN_VALUE, -65536, -1, 10, 11, 65536, Integer.MAX_VALUE};
    private static final int[] NO_HOUSES = {Integer.MIN_VALUE, -1024, -1, 1024, 1025, 2047, Integer.MAX_VALUE};
    private static final int[] NO_WHAT = {Integer.MIN_VALUE, -1, 2, 3, 100, Integer.MAX_VALUE};
    private static final String ALL = "abcdefgh/ij6./8./8./8./8./8./8.";
    private static final String ABC = "abc5./8./8./8./8./8./8./8.";

    public static void main(String[] args) {
        rotasNights();
        rotasHouses();
        rotasEach();
        rotasWhat();
        rotasNone();
        rotasTwoNightsOnEnd();
        rotasAtMostEach();
        rotasByLaw();
        rotasFirst();
        rotasEven();
        goesRefused();
        goesLeftOut();
        goesDays();
        goesDraws();
        goesBelow();
        goesAtTheEndOfTheDay();
        goesWrapsAround();
        oddsRefused();
        oddsNoneAndAll();
        oddsWithoutDivisor();
        wateredRefused();
        wateredAllKnow();
        wateredLowest();
        wateredThen();
        taxRefused();
        taxBytes();
        taxRests();
        taxOfNothing();
        handBounds();
        ledgerRefused();
        ledgerNoneFits();
        ledgerBlurred();
        ledgerTellsMost();
        seedBounds();
        keptLast();
        undoneNone();
        undoneAll();
        undoneNotKept();
        undoneOnWalls();
        undoneDogs();
        checkRefused();
        checkEmpty();
        checkNumbers();
        checkNotTold();
        countOthers();
        countEach();
        tell();
    }

    private static void rotasNights() {
        edge("19: n 1 to 14");
        GhostQuarter q = with(ALL, "");
        int[] nights = {Integer.MIN_VALUE, -1, 0, 15, 16, 9999, Integer.MAX_VALUE};
        for (int n : nights) {
            due(q.rotas(n, 31, 3, 100), -1);
            due(q.rotas(n, 31, 3, 0), -1);
        }
        due(q.rotas(1, 31, 3, 100), 5);
        due(q.rotas(14, 31, 3, 100), 22578000);
        due(q.rotas(14, 31, 3, 101), 1);
        due(q.rotas(14, 31, 3, 13), 4);
        due(q.rotas(14, 992, 3, 0), 5);
    }

    private static void rotasHouses() {
        edge("19: 1 to 5 HOUSES that have spots; NONE: no such ones, a HOUSE without a spot");
        GhostQuarter q = with(ALL, "");
        for (int houses : NO_HOUSES) {
            due(q.rotas(2, houses, 3, 100), -1);
        }
        due(q.rotas(2, 0, 3, 100), -1);
        due(q.rotas(1, 0, 3, 101), -1);
        due(q.rotas(1, 1, 3, 100), 1);
        due(q.rotas(1, 512, 3, 0), 9);
        due(q.rotas(2, 31, 3, 100), 20);
        due(q.rotas(2, 992, 3, 100), 20);
        due(q.rotas(2, 63, 3, 100), -1);
        due(q.rotas(2, 1023, 3, 100), -1);
        quarter(q, ABC);
        due(q.rotas(2, 7, 3, 100), 6);
        due(q.rotas(2, 15, 3, 100), -1);
        due(q.rotas(2, 8, 3, 100), -1);
        due(q.rotas(2, 513, 3, 100), -1);
        due(new GhostQuarter().rotas(1, 1, 1, 100), -1);
    }

    private static void rotasEach() {
        edge("19: at most k (1 to 3) each");
        GhostQuarter q = with(ALL, "");
        int[] most = {Integer.MIN_VALUE, -1, 0, 4, 5, 100, Integer.MAX_VALUE};
        for (int k : most) {
            due(q.rotas(2, 3, k, 100), -1);
        }
        due(q.rotas(2, 3, 1, 100), 2);
        due(q.rotas(3, 3, 1, 100), 0);
        due(q.rotas(3, 3, 2, 100), 2);
        due(q.rotas(5, 3, 2, 100), 0);
        due(q.rotas(5, 3, 3, 100), 2);
        due(q.rotas(6, 3, 3, 100), 2);
        due(q.rotas(7, 3, 3, 100), 0);
    }

    private static void rotasWhat() {
        edge("19: 100, 101, else the HOUSE in NIGHT what (0 on); NONE: no such ones (ahead of -2)");
        GhostQuarter q = with(ALL, "");
        int[] whats = {Integer.MIN_VALUE, -1, 14, 99, 102, 1000, Integer.MAX_VALUE};
        for (int what : whats) {
            due(q.rotas(14, 31, 3, what), -1);
            due(q.rotas(2, 1, 3, what), -1);
        }
        for (int n = 1; n <= 14; n++) {
            due(q.rotas(n, 31, 3, n - 1) >= 0, true);
            due(q.rotas(n, 31, 3, n), -1);
        }
        due(q.rotas(2, 1, 3, 1), -2);
        due(q.rotas(2, 1, 3, 2), -1);
    }

    private static void rotasNone() {
        edge("19: -2: there is none; how many: 0");
        GhostQuarter q = with(ABC, "m(1=2)");
        due(q.rotas(1, 7, 3, 100), 0);
        due(q.rotas(1, 7, 3, 101), -2);
        due(q.rotas(1, 7, 3, 0), -2);
        due(q.rotas(14, 7, 3, 13), -2);
    }

    private static void rotasTwoNightsOnEnd() {
        edge("19: none two NIGHTS on end");
        GhostQuarter q = with(ABC, "");
        due(q.rotas(1, 1, 1, 100), 1);
        due(q.rotas(1, 1, 1, 0), 0);
        due(q.rotas(1, 1, 1, 101), 0);
        due(q.rotas(2, 1, 2, 100), 0);
        due(q.rotas(4, 3, 3, 100), 2);
        due(q.rotas(4, 3, 3, 0), 0);
        due(q.rotas(4, 3, 3, 1), 1);
        due(q.rotas(4, 3, 3, 2), 0);
        due(q.rotas(4, 3, 3, 3), 1);
        // what was ahead of it is no matter
        q.haunts(0);
        due(q.rotas(1, 1, 1, 0), 0);
    }

    private static void rotasAtMostEach() {
        edge("19: each at most k NIGHTS: as many as there are");
        GhostQuarter q = with(ALL, "");
        due(q.rotas(12, 15, 3, 100), 41304);
        due(q.rotas(13, 15, 3, 100), 0);
        due(q.rotas(12, 15, 3, 101), 0);
        due(q.rotas(11, 15, 3, 101), 1);
        due(q.rotas(10, 31, 2, 100), 39480);
        due(q.rotas(11, 31, 2, 100), 0);
        due(q.rotas(5, 31, 1, 100), 120);
        due(q.rotas(6, 31, 1, 100), 0);
        due(q.rotas(9, 7, 3, 100), 174);
    }

    private static void rotasByLaw() {
        edge("19: for n NIGHTS from THE NIGHT on: m holds for each");
        GhostQuarter q = with(ABC, "");
        for (int night = 0; night <= 8; night++) {
            due(law(q, "m(d=" + night + "&h=1);m(d=" + (night + 1) + "&w=" + (night + 1) % 7 + "&h<2)"), 2);
            due(q.rotas(1, 7, 3, 100), 1);
            due(q.rotas(1, 7, 3, 0), 1);
            due(q.rotas(2, 7, 3, 100), 1);
            due(q.rotas(2, 7, 3, 1), 0);
            due(q.rotas(2, 5, 3, 100), 0);
            due(q.rotas(3, 7, 3, 100), 0);
            law(q, "f0(1=1)");
            q.haunts(0);
        }
        law(q, "m(d<22)");
        due(q.rotas(13, 3, 3, 100), 0);
        due(q.rotas(6, 3, 3, 100), 2);
        law(q, "m(d<14)");
        due(q.rotas(5, 3, 3, 100), 2);
        due(q.rotas(6, 3, 3, 100), 0);
        due(q.count(0), 9);
    }

    private static void rotasFirst() {
        edge("19: the first row (by HOUSES)");
        GhostQuarter q = with(ABC, "m(d=0);m(d=1&h>0);m(d=2&h=1);m(d=3)");
        int[] row = {0, 2, 1, 0};
        for (int night = 0; night < 4; night++) {
            due(q.rotas(4, 7, 3, night), row[night]);
        }
        // a first one that leads nowhere is not taken
        law(q, "m(d<2);m(d=2&h=0)");
        int[] third = {0, 1, 0};
        int[] one = {1, 2, 0};
        for (int night = 0; night < 3; night++) {
            due(q.rotas(3, 7, 2, night), third[night]);
            due(q.rotas(3, 7, 1, night), one[night]);
        }
    }

    private static void rotasEven() {
        edge("19: the least by which NIGHTS of one can be more than those of another one of them");
        GhostQuarter q = with(ALL, "");
        due(q.rotas(1, 3, 3, 101), 1);
        due(q.rotas(2, 3, 3, 101), 0);
        due(q.rotas(3, 3, 3, 101), 1);
        due(q.rotas(3, 7, 3, 101), 0);
        due(q.rotas(4, 31, 3, 101), 1);
        due(q.rotas(5, 31, 3, 101), 0);
        // one that never may is one of them, too
        law(q, "m(h<2)");
        due(q.rotas(2, 7, 3, 101), 1);
        due(q.rotas(4, 7, 3, 101), 2);
        due(q.rotas(6, 7, 3, 101), 3);
        due(q.rotas(5, 7, 3, 101), 3);
        law(q, "m(h>0)");
        due(q.rotas(4, 7, 3, 101), 2);
        due(q.rotas(6, 7, 3, 101), 3);
        law(q, "m(h=0|h=2)");
        due(q.rotas(4, 7, 3, 101), 2);
        // over all such rows, not of the first one
        law(q, "m(1=1)");
        due(q.rotas(4, 15, 3, 0), 0);
        due(q.rotas(4, 15, 3, 2), 0);
        due(q.rotas(4, 15, 3, 101), 0);
    }

    private static void goesRefused() {
        edge("20: n 1 to 20, HOUSES (bits); NONE: no such ones");
        GhostQuarter q = with(ABC, "r10(1=1)");
        int[] days = {Integer.MIN_VALUE, -1, 0, 21, 22, 1000, Integer.MAX_VALUE};
        for (int n : days) {
            due(q.goes(1, n), -1);
        }
        for (int houses : NO_HOUSES) {
            due(q.goes(houses, 1), -1);
        }
        due(q.count(7), 1);
        due(q.goes(1, 1), 7);
        due(q.goes(1023, 20), 7);
    }

    private static void goesLeftOut() {
        edge("20: bits of those with spots; others are left out");
        GhostQuarter q = with(ABC, "r10(1=1)");
        due(q.goes(1016, 20), 0);
        due(q.goes(512, 1), 0);
        due(q.count(7), 1);
        due(q.goes(512 + 4, 1), 7);
        due(new GhostQuarter().goes(1023, 20), 0);
        due(q.goes(0, 20), 0);
    }

    private static void goesDays() {
        edge("20: behind n DAYS (1 to 20)");
        GhostQuarter q = with(ALL, "r10(j=h+1)");
        for (int n = 1; n <= 9; n++) {
            due(q.goes(1, n), (2 << n) - 1);
        }
        due(q.goes(1, 20), 1023);
        law(q, "r1(h=0&j=1)");
        q.seed(1);
        int knows = 1;
        for (int n = 1; n <= 20; n++) {
            knows = q.goes(knows, 1);
        }
        int x = q.count(7);
        q.seed(1);
        due(q.goes(1, 20), knows);
        due(q.count(7), x);
    }

    private static void goesDraws() {
        edge("20: a DRAW for each HOUSE that knows it and each one that does not; nothing but X is changed");
        GhostQuarter q = with(ABC, "r0(1=1)");
        // draws from 1 on: 39022 61087 20196 45005 3882 21259
        due(q.goes(7, 20), 7);
        due(q.count(7), 1);
        due(q.goes(3, 1), 3);
        due(q.count(7), 61087);
        due(q.goes(4, 2), 4);
        due(q.count(7), 21259);
        // told already on that day: there is a DRAW all the same
        law(q, "r10(1=1)");
        q.seed(1);
        due(q.goes(3, 1), 7);
        due(q.count(7), 61087);
        // without a law, too
        GhostQuarter p = with(ABC, "");
        due(p.goes(1, 1), 1);
        due(p.count(7), 61087);
        due(p.count(0), 0);
        due(p.count(4), 7);
    }

    private static void goesBelow() {
        edge("20: with a DRAW below r: X modulo 10 from 0 to 9");
        GhostQuarter q = with("ab6./8./8./8./8./8./8./8.", "");
        int[] draws = {2, 7, 6, 5, 2, 9, 6, 7, 2, 9};
        int[] xs = {1, 39022, 61087, 20196, 45005, 3882, 21259, 65216, 19417, 30502};
        for (int i = 0; i < 10; i++) {
            due(law(q, "r" + draws[i] + "(1=1)"), 1);
            q.seed(xs[i]);
            due(q.goes(1, 1), 1);
            due(law(q, "r" + (draws[i] + 1) + "(1=1)"), 1);
            q.seed(xs[i]);
            due(q.goes(1, 1), 3);
        }
    }

    private static void goesAtTheEndOfTheDay() {
        edge("20: both as at the end of the DAY before");
        GhostQuarter q = with(ABC, "r10(j=h+1)");
        due(q.goes(1, 1), 3);
        due(q.goes(1, 2), 7);
        // by numbers: 0 to 1, 0 to 2, then 1 to 2 does not come: 1 hears it now only
        law(q, "r8(h=0&j=1);r10(h=1)");
        q.seed(1);
        due(q.goes(1, 1), 3);
        due(q.count(7), 61087);
        // first 1 to 0, then 1 to 2
        law(q, "r3(j=0);r8(j=2)");
        q.seed(1);
        due(q.goes(2, 1), 7);
        law(q, "r2(j=0);r8(j=2)");
        q.seed(1);
        due(q.goes(2, 1), 6);
        // first 0 to 1, then 2 to 1
        law(q, "r8(h=2)");
        q.seed(1);
        due(q.goes(5, 1), 7);
        law(q, "r7(h=2);r2(h=0)");
        q.seed(1);
        due(q.goes(5, 1), 5);
    }

    private static void goesWrapsAround() {
        edge("20: X = (25173 X + 13849) modulo 65536");
        GhostQuarter q = with("ab6./8./8./8./8./8./8./8.", "");
        int[] seeds = {0, 1, 2, 32767, 32768, 65534, 65535};
        for (int seed : seeds) {
            q.seed(seed);
            due(q.goes(1, 1), 1);
            due(q.count(7), (25173L * seed + 13849) % 65536);
        }
        // 65536 DRAWS bring it back: 131 times 500, and 36
        GhostQuarter p = with(ALL, "");
        p.seed(4711);
        long x = 4711;
        for (int i = 0; i < 131; i++) {
            due(p.goes(31, 20), 31);
            for (int k = 0; k < 500; k++) {
                x = (25173 * x + 13849) % 65536;
            }
            due(p.count(7), x);
        }
        due(p.goes(511, 4), 511);
        due(p.count(7), 4711);
    }

    private static void oddsRefused() {
        edge("21: HOUSE h with a spot, not one of them; NONE: no such ones");
        GhostQuarter q = with(ABC, "r5(1=1)");
        for (int h : FAR_OFF) {
            due(q.odds(1, h, 0), -1);
        }
        for (int h = 3; h < 10; h++) {
            due(q.odds(1, h, 0), -1);
            due(q.odds(1, h, 1), -1);
        }
        for (int houses : NO_HOUSES) {
            due(q.odds(houses, 1, 0), -1);
        }
        for (int what : NO_WHAT) {
            due(q.odds(1, 1, what), -1);
        }
        due(q.odds(2, 1, 0), -1);
        due(q.odds(7, 1, 0), -1);
        due(q.odds(1023, 0, 1), -1);
        due(q.odds(1023 - 1, 0, 1), 4);
        due(q.odds(512, 0, 0), 0);
        due(q.odds(512, 0, 1), 1);
    }

    private static void oddsNoneAndAll() {
        edge("21: 0 through 1, 1 through 1");
        GhostQuarter q = with(ALL, "");
        due(q.odds(511, 9, 0), 0);
        due(q.odds(511, 9, 1), 1);
        due(q.odds(0, 9, 0), 0);
        due(q.odds(0, 9, 1), 1);
        law(q, "r10(h=8)");
        due(q.odds(511, 9, 0), 1);
        due(q.odds(511, 9, 1), 1);
        due(q.odds(255, 9, 0), 0);
        due(q.odds(255, 9, 1), 1);
        law(q, "r10(1=1)");
        due(q.odds(0, 9, 0), 0);
        due(q.odds(511, 9, 0), 1);
        due(q.odds(511, 9, 1), 1);
    }

    private static void oddsWithoutDivisor() {
        edge("21: above, below the line, without a common divisor; up to nine HOUSES");
        GhostQuarter q = with(ALL, "r1(1=1)");
        due(q.odds(511, 9, 0), 612579511);
        due(q.odds(511, 9, 1), 1000000000);
        law(q, "r5(1=1)");
        long[] below = {2, 4, 8, 16, 32, 64, 128, 256, 512};
        for (int many = 1; many <= 9; many++) {
            due(q.odds((1 << many) - 1, 9, 0), below[many - 1] - 1);
            due(q.odds((1 << many) - 1, 9, 1), below[many - 1]);
        }
        law(q, "r2(h=0);r5(h=1);r6(h=2)");
        due(q.odds(1, 9, 0), 1);
        due(q.odds(1, 9, 1), 5);
        due(q.odds(3, 9, 0), 3);
        due(q.odds(3, 9, 1), 5);
        due(q.odds(7, 9, 0), 21);
        due(q.odds(7, 9, 1), 25);
        due(q.count(7), 1);
    }

    private static void wateredRefused() {
        edge("22: NONE: no such ones (ahead of -2)");
        GhostQuarter q = with(ABC, "r5(1=1)");
        for (int houses : NO_HOUSES) {
            due(q.watered(houses), -1);
            due(new GhostQuarter().watered(houses), -1);
        }
    }

    private static void wateredAllKnow() {
        edge("22: -2: all know it (of those with spots)");
        GhostQuarter q = with(ABC, "r5(1=1)");
        due(q.watered(7), -2);
        due(q.watered(1023), -2);
        due(q.watered(1016), 0);
        due(q.watered(6), 0);
        due(q.watered(5), 1);
        due(q.watered(3), 2);
        due(new GhostQuarter().watered(0), -2);
        due(new GhostQuarter().watered(1023), -2);
    }

    private static void wateredLowest() {
        edge("22: of like ones the lowest");
        GhostQuarter q = with(ALL, "r5(1=1)");
        due(q.watered(0), 0);
        due(q.watered(1), 1);
        due(q.watered(255), 8);
        law(q, "r0(1=1)");
        due(q.watered(0), 0);
        due(q.watered(6), 0);
        due(q.watered(7), 3);
        law(q, "r5(h=4);r5(h=7)");
        due(q.watered(0), 4);
        due(q.watered(16), 7);
        due(q.watered(16 + 128), 0);
    }

    private static void wateredThen() {
        edge("22: ODDS of all that do not know it then, most together");
        GhostQuarter q = with(ABC, "r6(h=0&j=1);r5(h=1);r4(h=2&j=1)");
        // 0: 6; 1: 5 + 5; 2: 4
        due(q.watered(0), 1);
        // with 1: 0 makes c's 5; 2 makes a's 5
        due(q.watered(2), 0);
        // with 0: 1 makes c's 5; 2 makes b's 10 - 4 * 6 / 10 = 7.6
        due(q.watered(1), 2);
        // with 2: 0 makes b's 7.6; 1 makes a's 5
        due(q.watered(4), 0);
        due(q.count(7), 1);
    }

    private static int tax(GhostQuarter q, int h, int... nights) {
        tape(q, bytes(nights));
        return q.tax(h);
    }

    private static GhostQuarter withCoins(int coins) {
        GhostQuarter q = with("a7./8./8./8./8./8./8./8.", "f1(1=1);c" + coins + "(1=1)");
        q.stranger(0, 0, 0, 1);
        q.haunts(0);
        due(q.count(1), coins);
        return q;
    }

    private static void taxRefused() {
        edge("23: NONE: no such HOUSE, it has not so many (the tape stays; ahead of -2)");
        GhostQuarter q = withCoins(10);
        due(q.tax(0), -1);
        due(q.tax(10), -1);
        feed(q, bytes(100));
        for (int h : FAR_OFF) {
            due(q.tax(h), -1);
        }
        due(q.count(6), 20);
        due(q.tax(0), -2);
        due(q.count(6), 0);
        due(q.tax(0), -1);
        due(tax(q, 9, 1), 0);
        due(tax(q, 0, 1), 10);
    }

    private static void taxBytes() {
        edge("23: -2: a byte above 99, no NIGHT; by the first 10 bytes, empty then");
        GhostQuarter q = withCoins(10);
        for (int i = 0; i < 10; i++) {
            int[] nights = new int[12];
            nights[10] = 255;
            nights[11] = 100;
            due(tax(q, i, nights), -2);
            due(q.count(6), 0);
            nights[i] = 99;
            due(tax(q, i, nights), 10);
            due(tax(q, (i + 1) % 10, nights), 0);
            nights[i] = 100;
            due(tax(q, i, nights), -2);
            nights[i] = 255;
            due(tax(q, i, nights), -2);
            nights[i] = 128;
            due(tax(q, i, nights), -2);
            nights[(i + 1) % 10] = 1;
            due(tax(q, i, nights), -2);
            due(q.count(6), 0);
        }
        due(tax(q, 0, 99, 99, 99, 99, 99, 99, 99, 99, 99, 99), 1);
        due(tax(q, 9, 99, 99, 99, 99, 99, 99, 99, 99, 99, 99), 1);
    }

    private static void taxRests() {
        edge("23: what is left one by one to those with the greatest rests (of like ones the lowest)");
        // 11 by 1, 2, 4 of 7: 1 and 4, 3 and 1, 6 and 2
        GhostQuarter q = withCoins(11);
        due(tax(q, 0, 1, 2, 4), 2);
        due(tax(q, 1, 1, 2, 4), 3);
        due(tax(q, 2, 1, 2, 4), 6);
        // by 3 of like ones: 3 each, two are left
        due(tax(q, 0, 5, 5, 5), 4);
        due(tax(q, 1, 5, 5, 5), 4);
        due(tax(q, 2, 5, 5, 5), 3);
        due(tax(q, 7, 0, 0, 0, 0, 0, 0, 0, 9, 9, 9), 4);
        due(tax(q, 8, 0, 0, 0, 0, 0, 0, 0, 9, 9, 9), 4);
        due(tax(q, 9, 0, 0, 0, 0, 0, 0, 0, 9, 9, 9), 3);
        // what stands behind the first 10 bytes has no rest
        due(tax(q, 1, 5, 5, 5, 0, 0, 0, 0, 0, 0, 0, 99, 1), 4);
        due(tax(q, 2, 5, 5, 5, 0, 0, 0, 0, 0, 0, 0, 99, 1), 3);
        // nothing is left
        due(tax(q, 0, 10, 1), 10);
        due(tax(q, 1, 10, 1), 1);
        // all ten: one each, one is left
        due(tax(q, 0, 7, 7, 7, 7, 7, 7, 7, 7, 7, 7), 2);
        due(tax(q, 1, 7, 7, 7, 7, 7, 7, 7, 7, 7, 7), 1);
        due(tax(q, 9, 7, 7, 7, 7, 7, 7, 7, 7, 7, 7), 1);
        // the greatest rest, not the most NIGHTS: 11 by 1 and 98 of 99: 0 and 11, 10 and 88
        due(tax(q, 0, 1, 98), 0);
        due(tax(q, 1, 1, 98), 11);
        // 11 by 95 and 4: 10 and 55, 0 and 44
        due(tax(q, 0, 95, 4), 11);
        due(tax(q, 1, 95, 4), 0);
        // 11 by 94 and 5: 10 and 44, 0 and 55
        due(tax(q, 0, 94, 5), 10);
        due(tax(q, 1, 94, 5), 1);
    }

    private static void taxOfNothing() {
        edge("23: without COINS nothing; with many of them all are shared out");
        GhostQuarter q = new GhostQuarter();
        due(tax(q, 0, 1, 99), 0);
        due(tax(q, 1, 1, 99), 0);
        due(tax(q, 0), -1);
        GhostQuarter p = with("a7./8./8./8./8./8./8./8.", "f1(1=1);c999(1=1)");
        for (int round = 0; round < 20; round++) {
            for (int g = 0; g < 10; g++) {
                p.stranger(g, 0, 0, 1);
            }
            p.haunts(0);
        }
        due(p.count(1), 199800);
        int[] nights = {99, 98, 97, 1, 0, 3, 50, 77, 99, 13};
        long sum = 0;
        for (int h = 0; h < 10; h++) {
            sum += tax(p, h, nights);
        }
        due(sum, 199800);
        due(tax(p, 4, nights), 0);
        // 199800 * 99 / 537 = 36834.6
        due(tax(p, 0, nights), 36835);
        due(p.count(1), 199800);
    }

    private static void handBounds() {
        edge("24: HOUSES 0 to 9, 8 bits; false: no such ones");
        GhostQuarter q = new GhostQuarter();
        for (int h : FAR_OFF) {
            due(q.hand(h, 0), false);
        }
        int[] noMarks = {Integer.MIN_VALUE, -256, -1, 256, 257, 65536, Integer.MAX_VALUE};
        for (int marks : noMarks) {
            due(q.hand(0, marks), false);
            due(q.hand(9, marks), false);
        }
        due(q.hand(0, 255), true);
        due(q.hand(9, 255), true);
        due(q.hand(0, 256), false);
        due(q.houseIs(0, 4), 255);
        due(q.hand(0, 0), true);
        due(q.houseIs(0, 4), 0);
        due(q.houseIs(9, 4), 255);
        due(q.houseIs(8, 4), 0);
    }

    private static void ledgerRefused() {
        edge("25: 8 bits each, HOUSES (bits); NONE: no such ones (ahead of -2)");
        GhostQuarter q = new GhostQuarter();
        int[] noMarks = {Integer.MIN_VALUE, -256, -1, 256, 511, 65536, Integer.MAX_VALUE};
        for (int marks : noMarks) {
            due(q.ledger(marks, 0, 1023, 0), -1);
            due(q.ledger(0, marks, 1023, 0), -1);
            due(q.ledger(marks, 0, 0, 1), -1);
            due(q.ledger(1, marks, 0, 1), -1);
        }
        for (int houses : NO_HOUSES) {
            due(q.ledger(0, 0, houses, 0), -1);
            due(q.ledger(0, 0, houses, 1), -1);
        }
        for (int what : NO_WHAT) {
            due(q.ledger(0, 0, 1023, what), -1);
            due(q.ledger(1, 0, 1023, what), -1);
        }
        due(q.ledger(0, 0, 1023, 0), 1023);
        due(q.ledger(255, 255, 1023, 0), 1023);
    }

    private static void ledgerNoneFits() {
        edge("25: none fits: 0, the mark -2");
        GhostQuarter q = new GhostQuarter();
        due(q.ledger(1, 0, 1023, 0), 0);
        due(q.ledger(1, 0, 1023, 1), -2);
        due(q.ledger(0, 255, 0, 0), 0);
        due(q.ledger(0, 255, 0, 1), -2);
        due(q.ledger(128, 127, 1023, 1), -2);
        q.hand(9, 128);
        due(q.ledger(128, 127, 1023, 0), 512);
        due(q.ledger(128, 127, 511, 0), 0);
    }

    private static void ledgerBlurred() {
        edge("25: some are blurred (not looked at)");
        GhostQuarter q = new GhostQuarter();
        for (int h = 0; h < 8; h++) {
            q.hand(h, 1 << h);
        }
        for (int h = 0; h < 8; h++) {
            due(q.ledger(1 << h, 0, 1023, 0), 1 << h);
            due(q.ledger(0, 1 << h, 1023, 0), 1 << h | 768);
            due(q.ledger(1 << h, 1 << h, 1023, 0), 1 << h | 768);
            due(q.ledger(0, 255 - (1 << h), 1023, 0), 1023 - (1 << h));
            due(q.ledger(255, 255 - (1 << h), 1023, 0), 1 << h);
        }
        due(q.ledger(0, 0, 1023, 0), 768);
        due(q.ledger(255, 0, 1023, 0), 0);
        due(q.ledger(170, 255, 1023, 0), 1023);
    }

    private static void ledgerTellsMost() {
        edge("25: the mark (0 to 7) that tells most; of like ones the lowest");
        GhostQuarter q = new GhostQuarter();
        due(q.ledger(0, 0, 1023, 1), 0);
        due(q.ledger(0, 0, 1, 1), 0);
        q.hand(0, 128);
        due(q.ledger(0, 255, 1023, 1), 7);
        due(q.ledger(0, 255, 1, 1), 0);
        due(q.ledger(0, 0, 1023, 1), 0);
        for (int h = 0; h < 10; h++) {
            q.hand(h, (h < 4 ? 4 : 0) | (h < 5 ? 16 : 0) | (h < 6 ? 8 : 0) | (h > 4 ? 64 : 0));
        }
        due(q.ledger(0, 255, 1023, 1), 4);
        due(q.ledger(0, 255, 511, 1), 2);
        due(q.ledger(0, 255, 127, 1), 2);
        due(q.ledger(0, 255, 31, 1), 2);
        due(q.ledger(0, 255, 15, 1), 0);
        due(q.ledger(0, 255, 992, 1), 3);
    }

    private static void seedBounds() {
        edge("26: THE SEED (0 to 65535; X, too); false: no such number");
        GhostQuarter q = new GhostQuarter();
        int[] beyond = {Integer.MIN_VALUE, -65536, -1, 65536, 65537, 131071, Integer.MAX_VALUE};
        for (int x : beyond) {
            due(q.seed(x), false);
            due(q.count(7), 1);
        }
        due(q.seed(0), true);
        due(q.count(7), 0);
        due(q.seed(65535), true);
        due(q.count(7), 65535);
        due(q.seed(65536), false);
        due(q.count(7), 65535);
    }

    private static void keptLast() {
        edge("27: KEPT: THE NIGHT; UNDONE: as they were KEPT last");
        GhostQuarter q = with(ABC, "");
        due(q.keep(), 0);
        for (int night = 1; night <= 5; night++) {
            q.haunts(0);
            q.seed(night);
            due(q.keep(), night);
            due(q.keep(), night);
        }
        q.haunts(0);
        q.seed(99);
        due(q.undo(), true);
        due(q.count(0), 5);
        due(q.count(7), 5);
        due(q.undo(), true);
        due(q.count(0), 5);
        due(q.keep(), 5);
    }

    private static void undoneNone() {
        edge("28: false: none was KEPT: nothing is changed");
        GhostQuarter q = with(ABC, "f9(1=1);c5(1=1)");
        q.stranger(0, 0, 0, 5);
        q.stranger(1, 0, 0, 50);
        q.seed(7);
        q.haunts(0);
        q.dog(0, true);
        q.tells(0);
        due(q.undo(), false);
        due(q.undo(), false);
        due(q.count(0), 1);
        due(q.count(1), 5);
        due(q.count(2), 3);
        due(q.count(3), 1);
        due(q.count(7), 7);
        due(q.strangerIs(1, 1), 9);
        due(q.houseIs(0, 2), 2);
        // KEPT at the start is KEPT
        GhostQuarter p = new GhostQuarter();
        due(p.keep(), 0);
        p.seed(9);
        due(p.undo(), true);
        due(p.count(7), 1);
    }

    private static void undoneAll() {
        edge("28: STRANGERS, DOGS that are TOLD, COINS, THE NIGHT, X as they were KEPT last");
        GhostQuarter q = with(ABC, "f9(1=1);c5(1=1)");
        q.stranger(0, 0, 0, 9);
        q.stranger(1, 0, 0, 50);
        q.stranger(2, 7, 7, 60);
        q.haunts(0);
        q.seed(7);
        q.keep();
        q.haunts(0);
        q.stranger(0, 1, 1, 3);
        q.stranger(2, 0, 1, 40);
        q.stranger(9, 0, 0, 1);
        q.haunts(0);
        q.goes(1, 3);
        due(q.count(1), 10);
        due(q.undo(), true);
        due(q.count(0), 1);
        due(q.count(1), 5);
        due(q.count(2), 7);
        due(q.count(3), 1);
        due(q.count(7), 7);
        due(q.strangerIs(0, 0), 0);
        due(q.strangerIs(0, 1), 9);
        due(q.strangerIs(0, 2), 9);
        due(q.strangerIs(0, 3), 1);
        due(q.strangerIs(1, 1), 9);
        due(q.strangerIs(2, 0), 63);
        due(q.strangerIs(2, 2), 60);
        due(q.strangerIs(9, 0), -1);
        // what comes behind undo does not change what is KEPT
        q.haunts(0);
        q.stranger(1, 5, 5, 5);
        due(q.undo(), true);
        due(q.strangerIs(1, 1), 9);
        due(q.count(0), 1);
    }

    private static void undoneNotKept() {
        edge("28: THE QUARTER, WALKS, THE LAW, hands, DOGS and the tape are not KEPT");
        GhostQuarter q = with(ABC, "m(1=1);m(1=1)");
        q.keep();
        walk(q, 0, "3n");
        law(q, "m(1=1)");
        quarter(q, "6.ab/8./8./8./8./8./8./8.");
        q.hand(0, 77);
        q.dog(1, true);
        q.feed(0, 0, 0, 0, 0);
        due(q.undo(), true);
        due(q.houseIs(0, 0), 6);
        due(q.houseIs(0, 1), 3);
        due(q.houseIs(0, 4), 77);
        due(q.houseIs(1, 2), 1);
        due(q.count(5), 1);
        due(q.count(4), 3);
        due(q.count(6), 20);
    }

    private static void undoneOnWalls() {
        edge("28: STRANGERS that are gone from a wall are as they were KEPT");
        GhostQuarter q = with(ABC, "f9(1=1)");
        q.stranger(3, 5, 0, 50);
        q.haunts(2);
        q.keep();
        quarter(q, "abc2.#2./8./8./8./8./8./8./8.");
        due(q.strangerIs(3, 0), -1);
        quarter(q, ABC);
        due(q.strangerIs(3, 0), -1);
        due(q.undo(), true);
        due(q.strangerIs(3, 0), 5);
        due(q.strangerIs(3, 1), 9);
        due(q.strangerIs(3, 2), 50);
    }

    private static void undoneDogs() {
        edge("28: DOGS that are TOLD");
        GhostQuarter q = with(ABC, "");
        q.dog(0, true);
        q.dog(1, true);
        q.tells(0);
        q.keep();
        q.tells(1);
        due(q.undo(), true);
        due(q.houseIs(0, 2), 2);
        due(q.houseIs(1, 2), 1);
        due(q.tells(1), true);
        // a dog that was told of anew
        due(q.dog(0, true), true);
        due(q.houseIs(0, 2), 1);
        due(q.undo(), true);
        due(q.houseIs(0, 2), 2);
        // none is there any more
        due(q.dog(0, false), true);
        due(q.undo(), true);
        due(q.houseIs(0, 2), 0);
        due(q.tells(0), false);
    }

    private static void checkRefused() {
        edge("29: -2: no such n, it has not so many (the tape stays)");
        GhostQuarter q = new GhostQuarter();
        due(q.check(1), -2);
        due(q.check(-1), -2);
        feed(q, times(bytes(0), 60));
        int[] noCounts = {Integer.MIN_VALUE, -1, 11, 12, 15, 1 << 30, Integer.MAX_VALUE};
        for (int n : noCounts) {
            due(q.check(n), -2);
        }
        due(q.count(6), 60);
        due(q.check(10), -1);
        due(q.count(6), 0);
        feed(q, bytes(0));
        due(q.check(6), -2);
        due(q.check(10), -2);
        due(q.count(6), 20);
        due(q.check(5), -1);
        due(q.count(6), 0);
        feed(q, times(bytes(0), 40));
        due(q.check(10), -1);
        due(q.count(6), 0);
    }

    private static void checkEmpty() {
        edge("29: the first 0 numbers are right; the tape is empty then");
        GhostQuarter q = new GhostQuarter();
        due(q.check(0), -1);
        q.feed(1, 2, 3, 4, 5);
        due(q.check(0), -1);
        due(q.count(6), 0);
    }

    private static void checkNumbers() {
        edge("29: four bytes each; the place of the first number that is not so");
        GhostQuarter q = with("a7./8./8./8./8./8./8./8.", "f90+g(1=1)");
        for (int g = 0; g < 10; g++) {
            q.stranger(g, 0, g % 8, 999);
        }
        for (int night = 0; night < 3; night++) {
            q.haunts(0);
        }
        StringBuilder right = new StringBuilder();
        for (int g = 0; g < 10; g++) {
            int fear = 3 * Math.min(99, 90 + g);
            due(q.strangerIs(g, 1), fear);
            right.append(bytes(0, 0, fear / 256, fear % 256));
        }
        for (int n = 0; n <= 10; n++) {
            feed(q, right.toString());
            due(q.check(n), -1);
        }
        for (int g = 0; g < 10; g++) {
            for (int i = 0; i < 4; i++) {
                StringBuilder wrong = new StringBuilder(right);
                wrong.setCharAt(4 * g + i, (char) (right.charAt(4 * g + i) + 1));
                feed(q, wrong.toString());
                due(q.check(10), g);
            }
            feed(q, right.substring(0, 4 * g) + times(bytes(255), 40 - 4 * g));
            due(q.check(10), g);
            feed(q, right.substring(0, 4 * g) + times(bytes(255), 40 - 4 * g));
            due(q.check(g), -1);
        }
    }

    private static void checkNotTold() {
        edge("29: of STRANGERS that are not told 0; of those that have paid what they have");
        GhostQuarter q = with("a7./8./8./8./8./8./8./8.", "f9(1=1)");
        q.stranger(1, 0, 0, 5);
        q.haunts(0);
        feed(q, bytes(0, 0, 0, 0, 0, 0, 0, 9));
        due(q.check(10), -2);
        due(q.check(5), -1);
        feed(q, bytes(0, 0, 0, 0, 0, 0, 0, 0));
        due(q.check(2), 1);
        quarter(q, "#a6./8./8./8./8./8./8./8.");
        feed(q, bytes(0, 0, 0, 0, 0, 0, 0, 9));
        due(q.check(2), 1);
        feed(q, bytes(0));
        due(q.check(5), -1);
    }

    private static void countOthers() {
        edge("30: NONE for others");
        GhostQuarter q = with(ALL, "");
        int[] whats = {Integer.MIN_VALUE, -100, -1, 8, 9, 10, 63, 64, 99, 164, 165, 200, 356, Integer.MAX_VALUE};
        for (int what : whats) {
            due(q.count(what), -1);
        }
        for (int what = 0; what <= 7; what++) {
            due(q.count(what) >= 0, true);
        }
        due(q.count(100), 2);
        due(q.count(163), 0);
    }

    private static void countEach() {
        edge("30: 0 lane, 1 wall, 2 + h HOUSE h; bits of STRANGERS, who has paid, HOUSES");
        GhostQuarter q = with("#abcdefg/hij5./8./8./8./8./8./7.#", "f9(1=1)");
        due(q.count(100), 1);
        for (int h = 0; h < 10; h++) {
            due(q.count(101 + h), 2 + h);
        }
        due(q.count(111), 0);
        due(q.count(162), 0);
        due(q.count(163), 1);
        due(q.count(4), 1023);
        for (int g = 0; g < 10; g++) {
            q.stranger(g, 1, 0, g < 5 ? 1 : 10);
        }
        due(q.count(2), 1023);
        due(q.count(3), 0);
        due(q.haunts(0), 0);
        due(q.count(3), 31);
        due(q.haunts(0), 0);
        due(q.count(3), 1023);
        due(q.count(2), 1023);
        due(q.count(0), 2);
        q.stranger(9, 2, 0, 1);
        due(q.count(3), 511);
    }
}
