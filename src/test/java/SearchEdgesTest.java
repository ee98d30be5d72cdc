/** The edges that the document names for DREAD, UNSEEN, WATCH, FEARED and SIGHTINGS (promises 14 to 18). */
public final class SearchEdgesTest extends Rows {
    private static final int[] FAR_OFF = {Integer.MIN_VALUE, -65536, -1, 10, 11, 65536, Integer.MAX_VALUE};
    private static final int[] NO_WHAT = {Integer.MIN_VALUE, -1, 2, 3, 100, Integer.MAX_VALUE};
    private static final String LONE = "a7./8./8./8./8./8./8./8.";

    public static void main(String[] args) {
        dreadRefused();
        dreadFewestAndMostMinutes();
        dreadStepBehindEachButTheLast();
        dreadFromEachCorner();
        dreadWalls();
        dreadLowestOfLikeOnes();
        dreadStaysAsItIs();
        dreadIsNoNight();
        unseenRefused();
        unseenCantCome();
        unseenOwnSpot();
        unseenFewestSeen();
        unseenFewestSteps();
        unseenLongWay();
        unseenMany();
        watchRefused();
        watchNoSpot();
        watchNoHouse();
        watchLowest();
        watchMinutes();
        watchSees();
        fearedRefused();
        fearedNone();
        fearedMost();
        fearedUpToMost();
        sightingsRefused();
        sightingsTape();
        sightingsNoSuchOnes();
        sightingsAtTheMinute();
        sightingsApart();
        sightingsTen();
        fromWhereToTheStep();
        fromWhereNobody();
        tell();
    }

    private static void dreadRefused() {
        edge("14: NONE: no such ones, without a spot");
        GhostQuarter q = with(LONE, "");
        for (int h : FAR_OFF) {
            due(q.dread(h, 1, 0), -1);
        }
        for (int h = 1; h < 10; h++) {
            due(q.dread(h, 1, 0), -1);
        }
        int[] minutes = {Integer.MIN_VALUE, -40, -1, 0, 41, 42, 65537, Integer.MAX_VALUE};
        for (int m : minutes) {
            due(q.dread(0, m, 0), -1);
            due(q.dread(0, m, 1), -1);
        }
        for (int what : NO_WHAT) {
            due(q.dread(0, 1, what), -1);
        }
        due(q.dread(0, 1, 0), 0);
        due(q.dread(0, 40, 0), 0);
        due(q.dread(0, 40, 1), 0);
    }

    private static void dreadFewestAndMostMinutes() {
        edge("14: in m MINUTES (1 to 40): MINUTES 0 to m - 1");
        GhostQuarter q = with(LONE, "f1+t(1=1)");
        q.stranger(0, 0, 0, 999);
        for (int m = 1; m <= 40; m++) {
            due(q.dread(0, m, 0), m * (m + 1) / 2);
            due(q.dread(0, m, 1), 0);
        }
        law(q, "f9(t=39)");
        due(q.dread(0, 39, 0), 0);
        due(q.dread(0, 40, 0), 9);
    }

    private static void dreadStepBehindEachButTheLast() {
        edge("14: a STEP behind each but the last");
        GhostQuarter q = with("#6.a/#7./#7./#7./#7./#7./#7./.7#", "f9(a=0)");
        q.stranger(0, 1, 0, 999);
        due(q.dread(0, 1, 1), 7);
        for (int m = 1; m <= 6; m++) {
            due(q.dread(0, m, 0), 0);
        }
        due(q.dread(0, 7, 0), 9);
        due(q.dread(0, 7, 1), 1);
        due(q.dread(0, 8, 0), 18);
        due(q.dread(0, 9, 0), 27);
    }

    private static void dreadFromEachCorner() {
        edge("14: a STEP n, e, s or w: to each other spot by as many as there are between");
        int[] corners = {0, 7, 56, 63};
        for (int from : corners) {
            StringBuilder text = new StringBuilder(EMPTY);
            int row = 3 * (from / 8);
            text.replace(row, row + 2, from % 8 == 0 ? "a7." : "7.a");
            for (int to = 0; to < 64; to++) {
                GhostQuarter q = with(text.toString(), "f9(a=0)");
                q.stranger(0, to % 8, to / 8, 999);
                int far = Math.abs(to % 8 - from % 8) + Math.abs(to / 8 - from / 8);
                due(far == 0 ? 0 : q.dread(0, far, 0), 0);
                due(q.dread(0, far + 1, 0), 9);
                due(q.dread(0, far + 1, 1), to);
            }
        }
    }

    private static void dreadWalls() {
        edge("14: walls as in a WALK: it stays; through a HOUSE it goes");
        GhostQuarter q = with(".#a#4./.b#5./8./8./8./8./8./8.", "f9(a=0)");
        q.stranger(0, 0, 0, 999);
        due(q.dread(0, 40, 0), 0);
        due(q.dread(0, 40, 1), 2);
        quarter(q, ".ba#4./.##5./8./8./8./8./8./8.");
        due(q.dread(0, 2, 0), 0);
        due(q.dread(0, 3, 0), 9);
        due(q.dread(0, 3, 1), 0);
        // not round the border
        quarter(q, "##6./a#6./##6./8./8./8./8./7.b");
        q.stranger(0, 7, 0, 999);
        due(q.dread(0, 40, 0), 0);
        due(q.dread(0, 40, 1), 8);
        due(q.dread(1, 8, 0), 9);
    }

    private static void dreadLowestOfLikeOnes() {
        edge("14: where it ends: the lowest spot of like ones");
        GhostQuarter q = with("8./8./8./8./4.a3./8./8./8.", "f1(t=0)");
        due(q.dread(0, 1, 1), 36);
        due(q.dread(0, 2, 1), 28);
        due(q.dread(0, 5, 1), 4);
        due(q.dread(0, 8, 1), 1);
        due(q.dread(0, 9, 1), 0);
        q.stranger(0, 4, 4, 999);
        due(q.dread(0, 2, 0), 1);
        due(q.dread(0, 2, 1), 28);
        law(q, "f1(1=1)");
        due(q.dread(0, 3, 0), 3);
        due(q.dread(0, 3, 1), 20);
        law(q, "f2(a=0);f1(1=1)");
        due(q.dread(0, 3, 0), 6);
        due(q.dread(0, 3, 1), 36);
    }

    private static void dreadStaysAsItIs() {
        edge("14: b, and who has paid, stay as they are; f is 0 for who does not see it");
        GhostQuarter q = with("a#6./##6./8./8./8./8./8./8.", "f7+b*2(1=1);c5(1=1)");
        q.stranger(0, 0, 0, 30);
        q.stranger(1, 7, 7, 1);
        due(q.dread(0, 4, 0), 28);
        due(q.haunts(0), 0);
        due(q.strangerIs(0, 1), 7);
        // nobody pays on the way: at its COURAGE it goes on
        due(q.dread(0, 40, 0), 21 * 40);
        due(q.haunts(0), 0);
        due(q.strangerIs(0, 1), 28);
        due(q.dread(0, 40, 0), 63 * 40);
        due(q.haunts(0), 5);
        due(q.dread(0, 40, 0), 0);
        // FEAR added up goes beyond 999
        law(q, "f99(1=1)");
        for (int g = 0; g < 10; g++) {
            q.stranger(g, 0, 0, 999);
        }
        due(q.dread(0, 40, 0), 99 * 40 * 10);
        due(q.dread(0, 11, 0), 99 * 11 * 10);
    }

    private static void dreadIsNoNight() {
        edge("14: DREAD changes nothing");
        GhostQuarter q = with(LONE, "f9(1=1);c5(1=1)");
        q.stranger(0, 0, 0, 5);
        due(q.dread(0, 3, 0), 27);
        due(q.strangerIs(0, 1), 0);
        due(q.strangerIs(0, 3), 0);
        due(q.count(0), 0);
        due(q.count(1), 0);
    }

    private static void unseenRefused() {
        edge("15: NONE: no such ones, without a spot (ahead of -2)");
        GhostQuarter q = with("a7./8./8./8./8./8./8./7.#", "");
        for (int h : FAR_OFF) {
            due(q.unseen(h, 5, 0), -1);
        }
        for (int h = 1; h < 10; h++) {
            due(q.unseen(h, 5, 0), -1);
            due(q.unseen(h, 63, 0), -1);
        }
        int[] spots = {Integer.MIN_VALUE, -64, -1, 64, 65, 128, Integer.MAX_VALUE};
        for (int spot : spots) {
            due(q.unseen(0, spot, 0), -1);
        }
        for (int what : NO_WHAT) {
            due(q.unseen(0, 5, what), -1);
            due(q.unseen(0, 63, what), -1);
        }
        due(q.unseen(0, 62, 1), 13);
        due(q.unseen(0, 63, 1), -2);
    }

    private static void unseenCantCome() {
        edge("15: -2: one can't come there: a wall, behind walls");
        GhostQuarter q = with("a.#5./..#5./###5./8./8./8./8./7.b", "");
        due(q.unseen(0, 2, 0), -2);
        due(q.unseen(0, 2, 1), -2);
        due(q.unseen(0, 3, 0), -2);
        due(q.unseen(0, 63, 1), -2);
        due(q.unseen(1, 0, 0), -2);
        due(q.unseen(0, 9, 0), 0);
        due(q.unseen(0, 9, 1), 2);
        // corners of walls leave no way, borders neither
        quarter(q, "#6.a/b#6./8./8./8./8./8./8.");
        due(q.unseen(0, 8, 1), 2 + 7 + 1);
        quarter(q, "#6.a/b#6./#7./8./8./8./8./8.");
        due(q.unseen(0, 8, 0), -2);
        due(q.unseen(1, 7, 0), -2);
        due(q.unseen(1, 8, 0), 0);
    }

    private static void unseenOwnSpot() {
        edge("15: the first MINUTE counts, too: to its own spot 0 STEPS");
        GhostQuarter q = with(LONE, "");
        due(q.unseen(0, 0, 0), 0);
        due(q.unseen(0, 0, 1), 0);
        for (int g = 0; g < 10; g++) {
            q.stranger(g, 7, 0, 5);
            due(q.unseen(0, 0, 0), g + 1);
            due(q.unseen(0, 0, 1), 0);
            due(q.unseen(0, 8, 0), g + 1);
            // in the column, or in the row, it is seen once more
            due(q.unseen(0, 7, 0), 3 * g + 3);
        }
    }

    private static void unseenFewestSeen() {
        edge("15: seen by as few STRANGERS' MINUTES as can be, a long way round");
        GhostQuarter q = with("8#/8./3#.#.##/4.#3./.6#./3.ab3./4#.3#/4#.3#", "");
        q.stranger(0, 4, 7, 5);
        // by the HOUSE it is seen once, round by the second row it is not
        due(q.houseIs(0, 0), 43);
        due(q.houseIs(1, 0), 44);
        due(q.unseen(0, 44, 0), 1);
        due(q.unseen(0, 44, 1), 1);
        due(q.unseen(0, 45, 0), 0);
        due(q.unseen(0, 45, 1), 3 + 2 + 3 + 2 + 2 + 2 + 2 + 2 + 2);
        // without a way round
        quarter(q, "8#/8#/3#.#.##/4.#3./.6#./3.a4./4#.3#/4#.3#");
        due(q.unseen(0, 45, 0), 1);
        due(q.unseen(0, 45, 1), 2);
    }

    private static void unseenFewestSteps() {
        edge("15: of such the fewest STEPS");
        GhostQuarter q = with("a7./8./8./8./8./8./8./8.", "");
        for (int spot = 0; spot < 64; spot++) {
            due(q.unseen(0, spot, 1), spot % 8 + spot / 8);
        }
        q.stranger(0, 7, 7, 5);
        due(q.unseen(0, 62, 0), 1);
        due(q.unseen(0, 62, 1), 13);
        due(q.unseen(0, 63, 0), 2);
        due(q.unseen(0, 63, 1), 14);
    }

    private static void unseenLongWay() {
        edge("15: by lanes and HOUSES (no walls): the longest way");
        GhostQuarter q = with("a3.b3./7#./8./.7#/8./7#./8./c7#", "");
        due(q.unseen(0, 56, 0), 0);
        due(q.unseen(0, 56, 1), 4 * 7 + 3 * 2 + 1);
        due(q.unseen(2, 0, 1), 35);
        due(q.unseen(1, 56, 1), 31);
        for (int g = 0; g < 10; g++) {
            q.stranger(g, 0, 7, 5);
        }
        due(q.unseen(0, 56, 0), 20);
        due(q.unseen(0, 56, 1), 35);
        due(q.unseen(0, 55, 0), 0);
        due(q.unseen(0, 49, 1), 33);
        due(q.unseen(0, 48, 0), 10);
    }

    private static void unseenMany() {
        edge("15: STRANGERS' MINUTES: each that sees the spot on which it is");
        GhostQuarter q = with("a6.b/8#/8#/8#/8#/8#/8#/8#", "f1(1=1)");
        for (int g = 0; g < 10; g++) {
            q.stranger(g, 4, 0, 1);
        }
        due(q.unseen(0, 7, 0), 80);
        due(q.unseen(0, 7, 1), 7);
        q.stranger(0, 7, 0, 1);
        due(q.unseen(0, 7, 0), 80);
        q.stranger(1, 0, 0, 1);
        due(q.unseen(0, 7, 0), 80);
        quarter(q, "a3.b2.c/8#/8#/8#/8#/8#/8#/8#");
        // 8 on b, one on c, one on a: both see as far as b
        due(q.unseen(0, 7, 0), 8 * 8 + 4 + 5);
        due(q.haunts(0), 0);
        due(q.count(3), 1023 - 1);
        due(q.unseen(0, 7, 0), 4);
    }

    private static void watchRefused() {
        edge("16: NONE: no such what (ahead of -2)");
        GhostQuarter q = new GhostQuarter();
        for (int what : NO_WHAT) {
            due(q.watch(what), -1);
        }
        quarter(q, "8#/8#/8#/8#/8#/8#/8#/8#");
        for (int what : NO_WHAT) {
            due(q.watch(what), -1);
        }
        due(q.watch(0), -2);
    }

    private static void watchNoSpot() {
        edge("16: the spot (no wall, no HOUSE); -2: no such spot");
        GhostQuarter q = with("8#/8#/8#/8#/8#/8#/8#/8#", "");
        due(q.watch(0), -2);
        due(q.watch(1), -2);
        quarter(q, "abcdefgh/ij6#/8#/8#/8#/8#/8#/8#");
        due(q.watch(0), -2);
        due(q.watch(1), -2);
        quarter(q, "abcdefgh/ij6#/8#/8#/8#/8#/8#/7#.");
        due(q.watch(0), 63);
        due(q.watch(1), 0);
    }

    private static void watchNoHouse() {
        edge("16: without a HOUSE that has a spot nothing is seen: the lowest spot");
        GhostQuarter q = new GhostQuarter();
        due(q.watch(0), 0);
        due(q.watch(1), 0);
        quarter(q, "##6./8./8./8./8./8./8./8.");
        walk(q, 3, "9.");
        due(q.watch(0), 2);
        due(q.watch(1), 0);
    }

    private static void watchLowest() {
        edge("16: of like ones the lowest");
        GhostQuarter q = with("8./8./8./8./8./8./8./7.a", "");
        due(q.watch(0), 7);
        due(q.watch(1), 1);
        quarter(q, "7.#/8./8./8./8./8./8./7.a");
        due(q.watch(0), 15);
        quarter(q, "a7./8./8./8./8./8./8./8.");
        due(q.watch(0), 1);
        quarter(q, "a#6./8./8./8./8./8./8./8.");
        due(q.watch(0), 8);
    }

    private static void watchMinutes() {
        edge("16: each HOUSE's added up, MINUTES 0 to its STEPS");
        GhostQuarter q = with("a6.b/8#/8#/8#/8#/8#/8#/8#", "");
        due(q.watch(1), 2);
        walk(q, 0, "6(9.)6.");
        due(q.watch(1), 62);
        walk(q, 1, "6(9.)6.");
        due(q.watch(1), 122);
        walk(q, 2, "6(9.)6.");
        due(q.watch(1), 122);
        due(q.watch(0), 1);
        // what a law, STRANGERS, DOGS say is no matter
        law(q, "m(1=2);f9(1=1)");
        q.stranger(0, 1, 0, 1);
        due(q.watch(1), 122);
        quarter(q, "a6.#/8#/8#/8#/8#/8#/8#/8#");
        due(q.watch(1), 61);
    }

    private static void watchSees() {
        edge("16: from which one sees: no wall and no HOUSE between, or on one spot");
        GhostQuarter q = with("a.bc4./8#/8#/8#/8#/8#/8#/.7#", "");
        due(q.watch(0), 1);
        due(q.watch(1), 2);
        walk(q, 2, "e");
        due(q.watch(0), 1);
        due(q.watch(1), 2);
        walk(q, 2, "2e");
        due(q.watch(0), 4);
        due(q.watch(1), 3);
        walk(q, 0, "2.");
        due(q.watch(0), 1);
        due(q.watch(1), 4);
    }

    private static void fearedRefused() {
        edge("17: NONE: no such ones, no told STRANGER (ahead of -2)");
        GhostQuarter q = with(LONE, "");
        q.stranger(4, 1, 1, 5);
        for (int g : FAR_OFF) {
            due(q.feared(g, 0), -1);
        }
        for (int g = 0; g < 10; g++) {
            due(q.feared(g, 0), g == 4 ? -2 : -1);
            due(q.feared(g, 1), g == 4 ? 0 : -1);
        }
        for (int what : NO_WHAT) {
            due(q.feared(4, what), -1);
        }
    }

    private static void fearedNone() {
        edge("17: -2: none (above 0); none: 0");
        GhostQuarter q = with(THREE, "f0(1=1)");
        q.stranger(0, 3, 0, 5);
        due(q.feared(0, 0), -2);
        due(q.feared(0, 1), 0);
        law(q, "f1(h=1)");
        due(q.feared(0, 0), 1);
        due(q.feared(0, 1), 1);
        quarter(q, EMPTY);
        due(q.feared(0, 0), -2);
        due(q.feared(0, 1), 0);
        // one that has paid grows no more
        quarter(q, THREE);
        law(q, "f9(1=1)");
        q.haunts(0);
        due(q.strangerIs(0, 3), 1);
        due(q.feared(0, 0), -2);
        due(q.feared(0, 1), 0);
    }

    private static void fearedMost() {
        edge("17: the HOUSE in a NIGHT of which FEAR grows most; of like ones the lowest; m is not looked at");
        GhostQuarter q = with(THREE, "m(1=2);f5(h>0);f3(1=1)");
        q.stranger(0, 0, 0, 999);
        due(q.feared(0, 0), 1);
        due(q.feared(0, 1), 5);
        walk(q, 0, ".");
        due(q.feared(0, 0), 0);
        due(q.feared(0, 1), 6);
        walk(q, 1, "w");
        due(q.feared(0, 0), 1);
        due(q.feared(0, 1), 10);
        walk(q, 2, "s");
        due(q.feared(0, 0), 1);
        due(q.feared(0, 1), 10);
        walk(q, 2, "2s");
        due(q.feared(0, 0), 2);
        due(q.feared(0, 1), 15);
        // with what it feels already it pays sooner
        q.stranger(0, 0, 0, 7);
        due(q.feared(0, 0), 1);
        due(q.feared(0, 1), 10);
        q.stranger(0, 0, 0, 5);
        due(q.feared(0, 0), 0);
        due(q.feared(0, 1), 6);
        due(q.strangerIs(0, 1), 0);
    }

    private static void fearedUpToMost() {
        edge("17: FEAR grows to 999 at most");
        GhostQuarter q = with(THREE, "f99(d<10);f50+40*h(1=1)");
        q.stranger(0, 0, 0, 999);
        for (int night = 0; night < 10; night++) {
            q.haunts(0);
        }
        due(q.strangerIs(0, 1), 990);
        due(q.feared(0, 0), 0);
        due(q.feared(0, 1), 9);
        law(q, "f8+h(1=1)");
        due(q.feared(0, 0), 1);
        due(q.feared(0, 1), 9);
    }

    private static int sightings(GhostQuarter q, int what, int... bytes) {
        tape(q, bytes(bytes));
        return q.sightings(bytes.length / 2, what);
    }

    private static void sightingsRefused() {
        edge("18: n 1 to 10; NONE: no such ones, it has not so many (the tape stays)");
        GhostQuarter q = with("a#6./8./8./8./8./8./8./8.", "");
        due(q.sightings(1, 0), -1);
        tape(q, bytes(0, 1, 5, 1, 4, 1));
        due(q.sightings(0, 0), -1);
        due(q.sightings(11, 0), -1);
        for (int n : FAR_OFF) {
            if (n != 10) {
                due(q.sightings(n, 0), -1);
            }
        }
        for (int what : NO_WHAT) {
            due(q.sightings(1, what), -1);
            due(q.sightings(3, what), -1);
        }
        due(q.count(6), 20);
        due(q.sightings(1, 0), -2);
        due(q.count(6), 0);
        due(q.sightings(1, 0), -1);
        due(q.sightings(10, 0), -1);
    }

    private static void sightingsTape() {
        edge("18: by the first 2 n bytes of the tape, empty then");
        GhostQuarter q = with(LONE, "");
        feed(q, bytes(1, 1, 2, 2, 3, 63, 0, 99));
        due(q.sightings(2, 0), 1);
        due(q.count(6), 0);
        feed(q, bytes(1, 1, 2, 2, 3, 63, 0, 99));
        due(q.sightings(3, 0), 2);
        feed(q, bytes(1, 1, 2, 2, 3, 63, 0, 99));
        due(q.sightings(4, 0), -2);
        due(q.count(6), 0);
        feed(q, times(bytes(9, 9), 10));
        due(q.sightings(10, 0), 1);
        feed(q, times(bytes(9, 9), 12));
        due(q.count(6), 40);
        due(q.sightings(10, 1), 1);
        due(q.count(6), 0);
    }

    private static void sightingsNoSuchOnes() {
        edge("18: -2: no such ones in it (a wall, MINUTES that fall)");
        GhostQuarter q = with("a#6./8./8./8./8./8./8./7.#", "");
        for (int what = 0; what <= 1; what++) {
            due(sightings(q, what, 0, 1), -2);
            due(sightings(q, what, 9, 63), -2);
            due(sightings(q, what, 9, 64), -2);
            due(sightings(q, what, 9, 128), -2);
            due(sightings(q, what, 9, 255), -2);
            due(sightings(q, what, 9, 2, 9, 1), -2);
            due(sightings(q, what, 9, 2, 8, 2), -2);
            due(sightings(q, what, 128, 2, 127, 2), -2);
            due(sightings(q, what, 255, 2, 0, 2), -2);
            due(sightings(q, what, 1, 2, 2, 2, 3, 2, 2, 2), -2);
            due(q.count(6), 0);
        }
        due(sightings(q, 0, 9, 2, 9, 2), 1);
        due(sightings(q, 0, 127, 2, 128, 2), 1);
        due(sightings(q, 0, 0, 0, 255, 62), 1);
        due(sightings(q, 0, 254, 62, 255, 61), 1);
    }

    private static void sightingsAtTheMinute() {
        edge("18: as many STEPS (4 ways, no walls) as there are MINUTES between, or fewer");
        GhostQuarter q = with("a#b5./.#6./8./8./8./8./8./8.", "");
        due(sightings(q, 0, 5, 0, 10, 2), 2);
        due(sightings(q, 0, 5, 0, 11, 2), 1);
        due(sightings(q, 0, 5, 0, 12, 2), 1);
        due(sightings(q, 0, 5, 2, 10, 0), 2);
        due(sightings(q, 0, 5, 2, 11, 0), 1);
        due(sightings(q, 0, 5, 9 + 9, 5, 9 + 9), 1);
        due(sightings(q, 0, 5, 18, 5, 19), 2);
        due(sightings(q, 0, 5, 18, 6, 19), 1);
        due(sightings(q, 0, 5, 18, 6, 27), 2);
        due(sightings(q, 0, 5, 18, 7, 27), 1);
        // not round the border
        due(sightings(q, 0, 5, 23, 6, 24), 2);
        due(sightings(q, 0, 5, 23, 12, 24), 2);
        due(sightings(q, 0, 5, 23, 13, 24), 1);
        // through a HOUSE
        quarter(q, "a7./b#6./.#6./8./8./8./8./8.");
        due(sightings(q, 0, 5, 0, 7, 16), 1);
        // one can't come there at all
        quarter(q, "a7./8#/8./8./8./8./8./8.");
        due(sightings(q, 0, 0, 0, 255, 16), 2);
        due(sightings(q, 1, 255, 16), 0);
    }

    private static void sightingsApart() {
        edge("18: the fewest ghosts that can have made all");
        GhostQuarter q = with(LONE, "");
        due(sightings(q, 0, 0, 0), 1);
        due(sightings(q, 0, 0, 0, 0, 7, 0, 56), 3);
        due(sightings(q, 0, 0, 0, 0, 7, 7, 7, 7, 0), 2);
        due(sightings(q, 0, 0, 0, 0, 7, 6, 6, 6, 1), 2);
        due(sightings(q, 0, 0, 3, 1, 2, 1, 4, 2, 3), 2);
        due(sightings(q, 0, 0, 3, 1, 2, 1, 4, 2, 1, 2, 5), 2);
        due(sightings(q, 0, 0, 3, 1, 2, 1, 4, 2, 1, 2, 3, 2, 5), 3);
        // two that one later one could be of, and one apart from all
        due(sightings(q, 0, 0, 0, 0, 2, 1, 1, 1, 63), 3);
        due(sightings(q, 0, 0, 63, 0, 0, 0, 2, 1, 1), 3);
        // by taking the nearest one first it would be three
        due(sightings(q, 0, 0, 0, 0, 4, 4, 2, 6, 0, 8, 7), 2);
        due(sightings(q, 0, 0, 0, 0, 8, 2, 1, 2, 16, 3, 0, 3, 8), 2);
    }

    private static void sightingsTen() {
        edge("18: ten of them, all apart, all one's");
        GhostQuarter q = with(LONE, "");
        int[] apart = new int[20];
        int[] one = new int[20];
        for (int i = 0; i < 10; i++) {
            apart[2 * i] = 7;
            apart[2 * i + 1] = 6 * i;
            one[2 * i] = 7 + i;
            one[2 * i + 1] = i < 8 ? i : 8 * (i - 7) + 7;
        }
        due(sightings(q, 0, apart), 10);
        due(sightings(q, 1, apart), 0);
        due(sightings(q, 0, one), 1);
        due(sightings(q, 1, one), 1);
        apart[18] = 8;
        apart[19] = 49;
        due(sightings(q, 0, apart), 9);
    }

    private static void fromWhereToTheStep() {
        edge("18: FROM WHERE: being there in MINUTE 0");
        GhostQuarter q = with("a#5.b/.#6./8./8./3.c4./8./8./j6.i", "");
        due(sightings(q, 1, 0, 0), 1);
        due(sightings(q, 1, 0, 7), 2);
        due(sightings(q, 1, 0, 1 + 1), 0);
        // to the spot 2: from a 6 STEPS, b 5, c 5, i 12, j 9
        due(sightings(q, 1, 4, 2), 0);
        due(sightings(q, 1, 5, 2), 2 + 4);
        due(sightings(q, 1, 6, 2), 1 + 2 + 4);
        due(sightings(q, 1, 8, 2), 7);
        due(sightings(q, 1, 9, 2), 7 + 512);
        due(sightings(q, 1, 11, 2), 7 + 512);
        due(sightings(q, 1, 12, 2), 7 + 512 + 256);
        due(sightings(q, 1, 255, 2), 7 + 512 + 256);
        // the later ones, too
        due(sightings(q, 1, 6, 2, 7, 4), 0);
        due(sightings(q, 1, 6, 2, 8, 4), 7);
        due(sightings(q, 1, 6, 2, 8, 4, 8, 4, 9, 5), 7);
        due(sightings(q, 1, 6, 2, 8, 4, 8, 4, 9, 6), 0);
    }

    private static void fromWhereNobody() {
        edge("18: FROM WHERE none: 0; HOUSES without a spot are none");
        GhostQuarter q = new GhostQuarter();
        due(sightings(q, 1, 255, 0), 0);
        due(sightings(q, 0, 255, 0), 1);
        quarter(q, "#a#5./.#6./8./8./8./8./8./8.");
        due(sightings(q, 1, 255, 8), 0);
        due(sightings(q, 1, 0, 1), 1);
        due(sightings(q, 1, 0, 1, 255, 8), 0);
        due(sightings(q, 1, 3, 1, 3, 1), 1);
    }
}
