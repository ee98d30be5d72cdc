/**
 * The edge that no 512 calls lead to: THE NIGHT 9999. The document promises nothing of an object's
 * later calls; the class counts none, so that its bound can be tested by them all the same.
 */
public final class LastNightTest extends Rows {
    public static void main(String[] args) {
        GhostQuarter q = with("ab6./8./8./8./8./8./8./8.", "m(h=0);f1(d=9999)");
        q.stranger(0, 4, 4, 5);
        q.stranger(1, 0, 4, 5);
        hauntUpTo(q, 9985);
        rotasUpToTheLast(q);
        lastNight(q);
        noNightMore(q);
        tell();
    }

    private static void hauntUpTo(GhostQuarter q, int last) {
        edge("9: THE NIGHT is one more");
        int wrong = 0;
        for (int night = q.count(0); night < last; night++) {
            wrong += q.haunts(0) != 0 || q.count(0) != night + 1 ? 1 : 0;
        }
        due(wrong, 0);
        due(q.count(0), last);
    }

    private static void rotasUpToTheLast(GhostQuarter q) {
        edge("19: NONE: THE NIGHT would be above 9999 behind them");
        due(law(q, "m(d<9999)"), 1);
        due(q.rotas(14, 3, 3, 100), 0);
        due(q.rotas(6, 3, 3, 100), 2);
        due(q.haunts(0), 0);
        due(q.rotas(14, 3, 3, 100), -1);
        due(q.rotas(13, 3, 3, 100), 0);
        hauntUpTo(q, 9998);
        edge("19: NONE: THE NIGHT would be above 9999 behind them (ahead of -2)");
        due(q.rotas(2, 3, 3, 100), -1);
        due(q.rotas(2, 1, 3, 101), -1);
        due(q.rotas(1, 3, 3, 100), 2);
        due(q.rotas(1, 3, 3, 0), 0);
        due(law(q, "m(1=2)"), 1);
        due(q.rotas(1, 3, 3, 0), -2);
        due(q.rotas(2, 3, 3, 0), -1);
    }

    private static void lastNight(GhostQuarter q) {
        edge("9: THE NIGHT 9999 at most: the one ahead of it is one, d 9998, w 2");
        due(law(q, "m(d=9998&w=2);f1(d=9998);c1(1=1)"), 3);
        due(q.houseIs(0, 3), 1);
        due(q.keep(), 9998);
        due(q.haunts(1), 0);
        due(q.strangerIs(1, 1), 0);
        due(q.count(0), 9999);
        due(q.undo(), true);
        due(q.count(0), 9998);
        due(q.haunts(0), 0);
        due(q.strangerIs(1, 1), 1);
        due(q.count(0), 9999);
    }

    private static void noNightMore(GhostQuarter q) {
        edge("9: then none is: NONE, nothing is changed");
        due(law(q, "m(1=1);f1(d=9999&w=3);r10(d=9999)"), 3);
        due(q.haunts(0), -1);
        due(q.count(0), 9999);
        due(q.strangerIs(1, 1), 1);
        edge("12: 3 whether it can haunt now: THE NIGHT below 9999");
        due(q.houseIs(0, 3), 0);
        due(q.houseIs(1, 3), 0);
        edge("9: NONE comes ahead of -2");
        due(law(q, "m(1=2);f1(d=9999&w=3);r10(d=9999)"), 3);
        due(q.haunts(0), -1);
        edge("19: NONE: THE NIGHT would be above 9999 behind them");
        due(q.rotas(1, 3, 3, 100), -1);
        due(q.rotas(1, 3, 3, 0), -1);
        edge("10: TRIED is a NIGHT (nothing is changed): it can be tried still");
        due(q.tried(0, 5), 1);
        due(q.goes(1, 1), 3);
        due(q.keep(), 9999);
        due(q.undo(), true);
        due(q.count(0), 9999);
    }
}
