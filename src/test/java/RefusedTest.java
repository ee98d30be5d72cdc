import java.util.ArrayList;
import java.util.List;

/**
 * A call that is refused changes nothing but the tape, where it is told; nor does one that only
 * tells: two objects like one another, the call on one of them, and all that can be asked of both.
 */
public final class RefusedTest extends Rows {
    private interface Call {
        long on(GhostQuarter q);
    }

    private static final String TAPE = "nesw.nneessww..nesw.eeennnwwwsss.e.n.w.s";
    private static final int[] OFF = {Integer.MIN_VALUE, -1, 10, Integer.MAX_VALUE};
    private static final int[] NO_WHAT = {Integer.MIN_VALUE, -1, 9, 99, Integer.MAX_VALUE};
    private static final int[] NO_HOUSES = {Integer.MIN_VALUE, -1, 1024, Integer.MAX_VALUE};

    private static final long[] UNTOUCHED = asked(made(), false);
    private static final long[] TAPE_EMPTY = asked(made(), true);

    public static void main(String[] args) {
        refusedTexts();
        faults();
        refusedTellings();
        refusedNights();
        refusedQuestions();
        refusedSearches();
        refusedReckonings();
        refusedTapes();
        badTapes();
        questionsChangeNothing();
        goesChangesX();
        tell();
    }

    /** An object with something of everything, KEPT once and gone on. */
    private static GhostQuarter made() {
        GhostQuarter q = with("a3.b2.#/8./2.c5./8./3.#4./8./8./i6.j", "m(h<9);f9-a(1=1);c20+g(1=1);r5(1=1)");
        walk(q, 0, "3e2n");
        walk(q, 1, "w2(n.)");
        q.stranger(0, 3, 0, 9);
        q.stranger(1, 2, 7, 300);
        q.stranger(2, 4, 2, 400);
        q.stranger(9, 0, 4, 30);
        q.dog(0, true);
        q.dog(1, true);
        q.dog(2, true);
        q.tells(1);
        q.hand(0, 200);
        q.hand(9, 3);
        q.seed(4711);
        q.haunts(0);
        q.keep();
        q.haunts(1);
        q.stranger(7, 6, 6, 50);
        q.haunts(8);
        q.tells(2);
        q.goes(1, 2);
        tape(q, TAPE);
        return q;
    }

    /** All that can be asked; what is on the tape is asked by a WALK. */
    private static long[] asked(GhostQuarter q, boolean emptied) {
        List<Long> told = new ArrayList<>();
        if (emptied) {
            q.check(0);
        }
        askState(q, told);
        for (int spot = 0; spot < 64; spot++) {
            told.add((long) q.count(100 + spot));
        }
        for (int h = 0; h < 10; h++) {
            for (int what = 0; what <= 5; what++) {
                told.add((long) q.tried(h, what));
            }
        }
        told.add((long) q.feared(1, 1));
        told.add(q.odds(1, 1, 1));
        told.add((long) q.walk(9, TAPE.length()));
        for (int t = 0; t <= TAPE.length(); t++) {
            told.add((long) q.tried(9, 20 + t));
        }
        told.add(q.undo() ? 1L : 0L);
        askState(q, told);
        long[] all = new long[told.size()];
        for (int i = 0; i < all.length; i++) {
            all[i] = told.get(i);
        }
        return all;
    }

    private static void askState(GhostQuarter q, List<Long> told) {
        for (int what = 0; what <= 7; what++) {
            told.add((long) q.count(what));
        }
        for (int i = 0; i < 10; i++) {
            for (int what = 0; what <= 4; what++) {
                told.add((long) q.strangerIs(i, what));
                told.add((long) q.houseIs(i, what));
            }
        }
    }

    private static void same(GhostQuarter q, long[] want) {
        long[] got = asked(q, false);
        int first = -1;
        for (int i = got.length - 1; i >= 0; i--) {
            if (got[i] != want[i]) {
                first = i;
            }
        }
        due(first, -1);
    }

    /** Refused with that answer: all is as it was. */
    private static void refused(long answer, Call call) {
        GhostQuarter q = made();
        due(call.on(q), answer);
        same(q, UNTOUCHED);
    }

    private static void refused(Call call) {
        refused(-1, call);
    }

    private static void refusedBit(boolean answer) {
        due(answer, false);
    }

    private static void refusedBit(GhostQuarter q, boolean answer) {
        refusedBit(answer);
        same(q, UNTOUCHED);
    }

    private static void refusedTexts() {
        edge("refused: feed, quarter, walk, law: NONE, the tape stays");
        for (int n : new int[] {Integer.MIN_VALUE, -1, 0, 41, 81, 121, 241, Integer.MAX_VALUE}) {
            refused(q -> q.quarter(n));
            refused(q -> q.walk(0, n));
            refused(q -> q.law(n));
        }
        for (int h : OFF) {
            refused(q -> q.walk(h, 5));
        }
        GhostQuarter q = made();
        GhostQuarter twin = made();
        for (int i = 0; i < 11; i++) {
            due(q.feed(i, i, i, i, i), 60 + 20 * i);
            twin.feed(i, i, i, i, i);
        }
        due(q.feed(7, 7, 7, 7, 7), -1);
        long[] got = asked(q, false);
        long[] want = asked(twin, false);
        for (int i = 0; i < got.length; i++) {
            due(got[i], want[i]);
        }
    }

    private static void fault(String text, int reader) {
        GhostQuarter q = made();
        int told = reader == 0 ? quarter(q, text) : reader == 1 ? walk(q, 0, text) : law(q, text);
        due(told <= -1000, true);
        same(q, TAPE_EMPTY);
    }

    private static void faults() {
        edge("a FAULT: the one before stays; the tape is empty");
        String[] quarters = {"x", "2a", "8#/8#/8#/8#/8#/8#/8#/8#.", "bca5#/c", "8#/8#/8#/8#/8#/8#/8#/7#"};
        String[] walks = {"x", "n2", "9(9n)", "((((", "nnnn(ee"};
        String[] laws = {"x", "m(1=2);", "m(1=2);f123456", "m(1=2);m((((((((", "m(1=2)&"};
        for (int i = 0; i < 5; i++) {
            fault(quarters[i], 0);
            fault(walks[i], 1);
            fault(laws[i], 2);
        }
        fault(times("m(1=2);", 17), 2);
    }

    private static void refusedTellings() {
        edge("refused: stranger, dog, tells, hand, seed: false");
        for (int off : OFF) {
            GhostQuarter q = made();
            refusedBit(q.stranger(off, 1, 1, 5));
            refusedBit(q.stranger(1, off, 1, 5));
            refusedBit(q.stranger(1, 1, off, 5));
            refusedBit(q.dog(off, true));
            refusedBit(q.dog(off, false));
            refusedBit(q.tells(off));
            refusedBit(q, q.hand(off, 5));
        }
        GhostQuarter q = made();
        refusedBit(q.stranger(1, 8, 1, 5));
        refusedBit(q.stranger(1, 1, 8, 5));
        refusedBit(q.stranger(1, 7, 0, 5));
        refusedBit(q.stranger(1, 3, 4, 5));
        refusedBit(q.stranger(1, 1, 1, 0));
        refusedBit(q.stranger(1, 1, 1, -5));
        refusedBit(q, q.stranger(1, 1, 1, 1000));
        GhostQuarter p = made();
        refusedBit(p.tells(1));
        refusedBit(p.tells(2));
        refusedBit(p.tells(3));
        refusedBit(p.hand(0, 256));
        refusedBit(p.hand(0, -1));
        refusedBit(p.seed(-1));
        refusedBit(p, p.seed(65536));
    }

    private static void refusedNights() {
        edge("refused: haunts: NONE, -2");
        for (int h : OFF) {
            refused(q -> q.haunts(h));
        }
        refused(q -> q.haunts(3));
        refused(-2, q -> q.haunts(9));
    }

    private static void refusedQuestions() {
        edge("refused: tried, strangerIs, houseIs, count, meet, watch, feared: NONE");
        for (int off : OFF) {
            refused(q -> q.tried(off, 0));
            refused(q -> q.strangerIs(off, 0));
            refused(q -> q.houseIs(off, 0));
            refused(q -> q.meet(off, 0, 0));
            refused(q -> q.meet(0, off, 0));
            refused(q -> q.feared(off, 0));
        }
        for (int what : NO_WHAT) {
            refused(q -> q.tried(0, what));
            refused(q -> q.strangerIs(0, what));
            refused(q -> q.houseIs(0, what));
            refused(q -> q.meet(0, 1, what));
            refused(q -> q.feared(0, what));
            refused(q -> q.watch(what));
            refused(q -> q.count(what));
        }
        refused(q -> q.tried(3, 0));
        refused(q -> q.tried(0, 13));
        refused(q -> q.tried(0, 26));
        refused(q -> q.strangerIs(3, 0));
        refused(q -> q.meet(0, 0, 0));
        refused(q -> q.meet(0, 3, 0));
        refused(q -> q.feared(3, 0));
        refused(q -> q.count(164));
    }

    private static void refusedSearches() {
        edge("refused: dread, unseen, rotas: NONE, -2");
        for (int off : OFF) {
            refused(q -> q.dread(off, 1, 0));
            refused(q -> q.unseen(off, 1, 0));
        }
        for (int off : new int[] {Integer.MIN_VALUE, -1, 0, 41, Integer.MAX_VALUE}) {
            refused(q -> q.dread(0, off, 0));
            refused(q -> q.rotas(off, 3, 1, 100));
            refused(q -> q.rotas(2, 3, off, 100));
        }
        for (int what : NO_WHAT) {
            refused(q -> q.dread(0, 1, what));
            refused(q -> q.unseen(0, 1, what));
            refused(q -> q.rotas(2, 3, 1, what));
        }
        for (int houses : NO_HOUSES) {
            refused(q -> q.rotas(2, houses, 1, 100));
        }
        refused(q -> q.dread(3, 1, 0));
        refused(q -> q.unseen(3, 1, 0));
        refused(q -> q.unseen(0, 64, 0));
        refused(-2, q -> q.unseen(0, 7, 0));
        refused(q -> q.rotas(2, 0, 1, 100));
        refused(q -> q.rotas(2, 8, 1, 100));
        refused(-2, q -> q.rotas(3, 3, 1, 101));
        refused(0, q -> q.rotas(3, 3, 1, 100));
    }

    private static void refusedReckonings() {
        edge("refused: goes, odds, watered, ledger: NONE, -2");
        for (int houses : NO_HOUSES) {
            refused(q -> q.goes(houses, 1));
            refused(q -> q.odds(houses, 1, 0));
            refused(q -> q.watered(houses));
            refused(q -> q.ledger(0, 0, houses, 0));
            refused(q -> q.ledger(houses, 0, 1, 0));
            refused(q -> q.ledger(0, houses, 1, 0));
        }
        for (int off : new int[] {Integer.MIN_VALUE, -1, 0, 21, Integer.MAX_VALUE}) {
            refused(q -> q.goes(1, off));
        }
        for (int off : OFF) {
            refused(q -> q.odds(1, off, 0));
        }
        for (int what : NO_WHAT) {
            refused(q -> q.odds(1, 1, what));
            refused(q -> q.ledger(0, 0, 1, what));
        }
        refused(q -> q.odds(1, 0, 0));
        refused(q -> q.odds(1, 3, 0));
        refused(-2, q -> q.watered(1023));
        refused(-2, q -> q.ledger(1, 0, 1, 1));
    }

    private static void refusedTapes() {
        edge("refused: sightings, tax NONE, check -2: the tape stays");
        for (int off : new int[] {Integer.MIN_VALUE, -1, 0, 11, Integer.MAX_VALUE}) {
            refused(q -> q.sightings(off, 0));
        }
        for (int what : NO_WHAT) {
            refused(q -> q.sightings(1, what));
        }
        for (int h : OFF) {
            refused(q -> q.tax(h));
        }
        for (int n : new int[] {Integer.MIN_VALUE, -1, 11, Integer.MAX_VALUE}) {
            refused(-2, q -> q.check(n));
        }
        GhostQuarter q = made();
        q.check(0);
        due(q.sightings(1, 0), -1);
        due(q.tax(0), -1);
        due(q.check(1), -2);
        same(q, TAPE_EMPTY);
    }

    private static void badTapes() {
        edge("sightings, tax -2, check: nothing is changed, the tape is empty");
        GhostQuarter q = made();
        due(q.sightings(10, 0), -2);
        same(q, TAPE_EMPTY);
        GhostQuarter p = made();
        due(p.tax(0), -2);
        same(p, TAPE_EMPTY);
        GhostQuarter r = made();
        due(r.check(10), 0);
        same(r, TAPE_EMPTY);
        GhostQuarter s = made();
        s.check(0);
        feed(s, bytes(1, 2, 3));
        due(s.tax(0) > 0, true);
        same(s, TAPE_EMPTY);
        GhostQuarter t = made();
        t.check(0);
        feed(t, bytes(1, 2, 3, 3));
        due(t.sightings(2, 1) >= 0, true);
        same(t, TAPE_EMPTY);
    }

    private static void questionsChangeNothing() {
        edge("what only tells changes nothing");
        for (int what = 0; what <= 1; what++) {
            int w = what;
            GhostQuarter q = made();
            for (int h = 0; h < 3; h++) {
                q.tried(h, w);
                q.dread(h, 3, w);
                q.unseen(h, 60, w);
                q.meet(h, (h + 1) % 3, w);
            }
            q.watch(w);
            q.feared(1, w);
            q.rotas(4, 7, 2, 100 + w);
            q.rotas(4, 7, 2, w);
            q.odds(1, 1, w);
            q.watered(1);
            q.ledger(0, 255, 1023, w);
            same(q, UNTOUCHED);
        }
    }

    private static void goesChangesX() {
        edge("20: nothing but X is changed");
        GhostQuarter q = made();
        int x = q.count(7);
        q.goes(3, 5);
        due(q.count(7) != x, true);
        due(q.seed(x), true);
        same(q, UNTOUCHED);
        edge("26: nothing but X is changed, told: THE SEED");
        GhostQuarter p = made();
        due(p.seed(9), true);
        due(p.seed(x), true);
        same(p, UNTOUCHED);
    }
}
