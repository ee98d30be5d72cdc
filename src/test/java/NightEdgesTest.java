/** The edges that the document names for STRANGERS, DOGS and NIGHTS (promises 6 to 13). */
public final class NightEdgesTest extends Rows {
    private static final int[] FAR_OFF = {Integer.MIN_VALUE, -65536, -2, -1, 10, 11, 64, 65536, Integer.MAX_VALUE};
    private static final String LONE = "a7./8./8./8./8./8./8./8.";

    public static void main(String[] args) {
        strangerNumbers();
        strangerSpots();
        strangerCourage();
        strangerOnWall();
        strangerInPlace();
        strangerRefused();
        dogNumbers();
        dogIsNotTold();
        tellsRefused();
        tellsOnce();
        hauntsRefused();
        hauntsByLaw();
        hauntsAddsUp();
        firstAndLastMinute();
        wallsAndBorders();
        oneRowOrColumn();
        nothingRoundTheBorder();
        wallsBetween();
        housesBetween();
        onOneSpot();
        fearUpToMost();
        courageToTheNumber();
        goneFromThenOn();
        paysByNumbers();
        barksBeside();
        barksNotRoundTheBorder();
        barksNotTold();
        barksEachMinute();
        triedWhat();
        triedMinutes();
        triedPays();
        triedChangesNothing();
        strangerIsWhat();
        strangerIsSees();
        houseIsWhat();
        houseIsCanHaunt();
        meetRefused();
        meetOnOneSpot();
        meetChangedPlaces();
        meetWhenOver();
        meetAtTheLast();
        tell();
    }

    private static void strangerNumbers() {
        edge("6: STRANGERS 0 to 9; false: no such ones");
        GhostQuarter q = new GhostQuarter();
        for (int g : FAR_OFF) {
            due(q.stranger(g, 1, 1, 5), false);
            due(q.strangerIs(g, 0), -1);
        }
        due(q.count(2), 0);
        for (int g = 0; g < 10; g++) {
            due(q.stranger(g, g % 8, 7, 5), true);
            due(q.count(2), (2 << g) - 1);
        }
        due(q.strangerIs(9, 0), 57);
    }

    private static void strangerSpots() {
        edge("6: a spot of 8 by 8; false: no such ones");
        GhostQuarter q = new GhostQuarter();
        int[] beyond = {Integer.MIN_VALUE, -8, -1, 8, 9, 63, 64, 1 << 29, 1 << 30, Integer.MAX_VALUE};
        for (int off : beyond) {
            for (int in = 0; in < 8; in += 7) {
                due(q.stranger(0, off, in, 5), false);
                due(q.stranger(0, in, off, 5), false);
            }
            due(q.stranger(0, off, off, 5), false);
        }
        due(q.stranger(0, -8, 1, 5), false);
        due(q.stranger(0, 8, -1, 5), false);
        due(q.count(2), 0);
        due(q.stranger(0, 0, 0, 5), true);
        due(q.strangerIs(0, 0), 0);
        due(q.stranger(0, 7, 0, 5), true);
        due(q.strangerIs(0, 0), 7);
        due(q.stranger(0, 0, 7, 5), true);
        due(q.strangerIs(0, 0), 56);
        due(q.stranger(0, 7, 7, 5), true);
        due(q.strangerIs(0, 0), 63);
    }

    private static void strangerCourage() {
        edge("6: COURAGE 1 to 999; false: no such ones");
        GhostQuarter q = new GhostQuarter();
        int[] beyond = {Integer.MIN_VALUE, -999, -1, 0, 1000, 1001, 65537, Integer.MAX_VALUE};
        for (int courage : beyond) {
            due(q.stranger(0, 1, 1, courage), false);
        }
        due(q.count(2), 0);
        due(q.stranger(0, 1, 1, 1), true);
        due(q.strangerIs(0, 2), 1);
        due(q.stranger(0, 1, 1, 999), true);
        due(q.strangerIs(0, 2), 999);
    }

    private static void strangerOnWall() {
        edge("6: false: a wall; a lane, a HOUSE will do, and a spot where another one stands");
        GhostQuarter q = with("#a5.#/8./8./8./8./8./8./#5.b#", "");
        due(q.stranger(0, 0, 0, 5), false);
        due(q.stranger(0, 7, 0, 5), false);
        due(q.stranger(0, 0, 7, 5), false);
        due(q.stranger(0, 7, 7, 5), false);
        due(q.count(2), 0);
        due(q.stranger(0, 1, 0, 5), true);
        due(q.stranger(1, 6, 7, 5), true);
        due(q.stranger(2, 6, 7, 5), true);
        due(q.stranger(3, 2, 0, 5), true);
        due(q.count(2), 15);
    }

    private static void strangerInPlace() {
        edge("6: in place of the one before: FEAR 0, not paid");
        GhostQuarter q = with(LONE, "f9(1=1);c2(1=1)");
        q.stranger(0, 3, 0, 9);
        q.stranger(1, 3, 0, 10);
        due(q.haunts(0), 2);
        due(q.strangerIs(0, 3), 1);
        due(q.strangerIs(1, 1), 9);
        due(q.stranger(0, 3, 0, 9), true);
        due(q.strangerIs(0, 3), 0);
        due(q.strangerIs(0, 1), 0);
        due(q.stranger(1, 4, 4, 7), true);
        due(q.strangerIs(1, 0), 36);
        due(q.strangerIs(1, 1), 0);
        due(q.strangerIs(1, 2), 7);
        due(q.haunts(0), 2);
        due(q.strangerIs(0, 3), 1);
        due(q.strangerIs(1, 1), 0);
    }

    private static void strangerRefused() {
        edge("6: refused: the one before stays");
        GhostQuarter q = with("a#6./8./8./8./8./8./8./8.", "f9(1=1)");
        q.stranger(4, 0, 3, 99);
        q.haunts(0);
        due(q.stranger(4, 1, 0, 5), false);
        due(q.stranger(4, 8, 0, 5), false);
        due(q.stranger(4, 0, 8, 5), false);
        due(q.stranger(4, 2, 2, 0), false);
        due(q.stranger(4, 2, 2, 1000), false);
        due(q.strangerIs(4, 0), 24);
        due(q.strangerIs(4, 1), 9);
        due(q.strangerIs(4, 2), 99);
    }

    private static void dogNumbers() {
        edge("7: HOUSES 0 to 9, with a spot or not; false: no such HOUSE");
        GhostQuarter q = new GhostQuarter();
        for (int h : FAR_OFF) {
            due(q.dog(h, true), false);
            due(q.dog(h, false), false);
        }
        for (int h = 0; h < 10; h++) {
            due(q.houseIs(h, 2), 0);
            due(q.dog(h, true), true);
            due(q.houseIs(h, 2), 1);
        }
        for (int h = 0; h < 10; h++) {
            due(q.dog(h, false), true);
            due(q.dog(h, false), true);
            due(q.houseIs(h, 2), 0);
        }
    }

    private static void dogIsNotTold() {
        edge("7: it is not TOLD");
        GhostQuarter q = new GhostQuarter();
        q.dog(3, true);
        q.dog(4, true);
        due(q.tells(3), true);
        due(q.tells(4), true);
        due(q.dog(3, true), true);
        due(q.houseIs(3, 2), 1);
        due(q.houseIs(4, 2), 2);
        due(q.tells(3), true);
        due(q.dog(3, false), true);
        due(q.houseIs(3, 2), 0);
        due(q.dog(3, true), true);
        due(q.houseIs(3, 2), 1);
    }

    private static void tellsRefused() {
        edge("8: false: there is none");
        GhostQuarter q = new GhostQuarter();
        for (int h : FAR_OFF) {
            due(q.tells(h), false);
        }
        for (int h = 0; h < 10; h++) {
            due(q.tells(h), false);
            due(q.houseIs(h, 2), 0);
        }
        q.dog(5, true);
        q.dog(5, false);
        due(q.tells(5), false);
        q.dog(5, true);
        due(q.houseIs(5, 2), 1);
        due(q.tells(4), false);
        due(q.tells(6), false);
    }

    private static void tellsOnce() {
        edge("8: false: it is TOLD");
        GhostQuarter q = new GhostQuarter();
        for (int h = 0; h < 10; h += 9) {
            q.dog(h, true);
            due(q.tells(h), true);
            due(q.tells(h), false);
            due(q.houseIs(h, 2), 2);
            q.dog(h, true);
            due(q.tells(h), true);
            due(q.tells(h), false);
        }
    }

    private static void hauntsRefused() {
        edge("9: NONE: no such one, it has no spot (m not asked)");
        GhostQuarter q = with(LONE, "m(1=2)");
        for (int h : FAR_OFF) {
            due(q.haunts(h), -1);
        }
        for (int h = 1; h < 10; h++) {
            due(q.haunts(h), -1);
        }
        due(q.haunts(0), -2);
        due(q.count(0), 0);
        quarter(q, "b7./8./8./8./8./8./8./8.");
        due(q.haunts(0), -1);
        due(q.haunts(1), -2);
    }

    private static void hauntsByLaw() {
        edge("9: -2: m does not hold for it: nothing is changed");
        GhostQuarter q = with(THREE, "m(h=1);m(d=1);f9(1=1);c5(1=1)");
        q.stranger(0, 3, 0, 9);
        due(q.haunts(0), -2);
        due(q.haunts(2), -2);
        due(q.count(0), 0);
        due(q.count(1), 0);
        due(q.strangerIs(0, 1), 0);
        due(q.haunts(1), 5);
        due(q.count(0), 1);
        due(q.haunts(0), 0);
        due(q.haunts(0), -2);
        due(q.count(0), 2);
    }

    private static void hauntsAddsUp() {
        edge("9: COINS so far are more by all that is paid; THE NIGHT is one more");
        GhostQuarter q = with(LONE, "f9(1=1);c999(1=1)");
        due(q.haunts(0), 0);
        due(q.count(0), 1);
        due(q.count(1), 0);
        for (int round = 1; round <= 3; round++) {
            for (int g = 0; g < 10; g++) {
                q.stranger(g, g % 8, 0, 9);
            }
            due(q.haunts(0), 9990);
            due(q.count(1), 9990 * round);
            due(q.count(0), 1 + round);
            due(q.count(3), 1023);
        }
        due(q.haunts(0), 0);
        due(q.count(1), 29970);
    }

    private static void firstAndLastMinute() {
        edge("9: it stands there in MINUTE 0, in each further one does the next STEP, till its WALK is over");
        GhostQuarter q = with(LONE, "f1(1=1)");
        q.stranger(0, 0, 7, 99);
        due(q.tried(0, 3), 1);
        due(q.tried(0, 5), 1);
        walk(q, 0, "e");
        due(q.tried(0, 3), 1);
        walk(q, 0, "ew");
        due(q.tried(0, 3), 2);
        due(q.tried(0, 5), 2);
        walk(q, 0, "6(9.)6.");
        due(q.tried(0, 3), 61);
        due(q.tried(0, 5), 61);
        law(q, "f1(t=0);f2(t=60);f3(t>60)");
        due(q.tried(0, 5), 3);
    }

    private static void wallsAndBorders() {
        edge("9: into a wall, off the quarter: it stays");
        GhostQuarter q = with("a6.b/8./8./3.#4./2.#c#3./3.#4./8./d6.e", "f1(1=1)");
        String[] walks = {"ssww", "ssee", "nnsseeww", "nnww", "nnee"};
        for (int h = 0; h < 5; h++) {
            walk(q, h, walks[h]);
        }
        int[] homes = {0, 7, 35, 56, 63};
        for (int h = 0; h < 5; h++) {
            due(q.tried(h, 20), homes[h]);
            due(q.tried(h, 21), homes[h]);
            due(q.tried(h, 22), homes[h]);
            due(q.tried(h, 23), homes[h]);
            due(q.tried(h, 24), homes[h]);
            due(q.tried(h, 4), homes[h]);
        }
        due(q.tried(2, 28), 35);
        // a MINUTE in which it stays is one, too
        q.stranger(0, 3, 0, 99);
        due(q.tried(0, 5), 5);
        walk(q, 0, "s2es");
        int[] path = {0, 0, 1, 2, 2};
        for (int t = 0; t < 5; t++) {
            due(q.tried(0, 20 + t), path[t]);
        }
        due(q.tried(0, 5), 5);
        // through a HOUSE it goes
        quarter(q, "abc5./8./8./8./8./8./8./8.");
        walk(q, 0, "3e");
        due(q.tried(0, 4), 3);
    }

    /** Whether one on the first spot sees a ghost on the other one. */
    private static boolean sees(String quarter, int x, int y) {
        GhostQuarter q = with(quarter, "f1(1=1)");
        q.stranger(0, x, y, 999);
        boolean frightened = q.tried(0, 5) == 1;
        due(q.tried(0, 3) == 1, frightened);
        due((q.strangerIs(0, 4) & 1) == 1, frightened);
        due(q.dread(0, 1, 0) == 1, frightened);
        due(q.unseen(0, q.houseIs(0, 0), 0) == 1, frightened);
        due(q.feared(0, 0) == 0, frightened);
        return frightened;
    }

    private static void oneRowOrColumn() {
        edge("9: sees it: in one row or column, of all spots");
        for (int spot = 0; spot < 64; spot++) {
            int x = spot % 8;
            int y = spot / 8;
            due(sees("8./8./8./8./3.a4./8./8./8.", x, y), x == 3 || y == 4);
            due(sees("a7./8./8./8./8./8./8./8.", x, y), x == 0 || y == 0);
            due(sees("8./8./8./8./8./8./8./7.a", x, y), x == 7 || y == 7);
        }
    }

    private static void nothingRoundTheBorder() {
        edge("9: no row or column goes on at the border");
        due(sees("8./a7./8./8./8./8./8./8.", 7, 0), false);
        due(sees("7.a/8./8./8./8./8./8./8.", 0, 1), false);
        due(sees("a7./8./8./8./8./8./8./8.", 1, 7), false);
        due(sees("8./8./8./8./8./8./8./7.a", 6, 0), false);
        // round a wall neither
        due(sees("a#6./8./8./8./8./8./8./8.", 7, 0), false);
        due(sees("a7./#7./8./8./8./8./8./8.", 0, 7), false);
    }

    private static void wallsBetween() {
        edge("9: no wall between");
        due(sees("a.#5./8./8./8./8./8./8./8.", 1, 0), true);
        due(sees("a.#5./8./8./8./8./8./8./8.", 3, 0), false);
        due(sees("a5.#./8./8./8./8./8./8./8.", 7, 0), false);
        due(sees("a5.#./8./8./8./8./8./8./8.", 5, 0), true);
        due(sees("5.#.a/8./8./8./8./8./8./8.", 6, 0), true);
        due(sees("#4.#.a/8./8./8./8./8./8./8.", 4, 0), false);
        due(sees("a7./#7./8./8./8./8./8./8.", 0, 2), false);
        due(sees("a7./8./8./8./8./8./#7./8.", 0, 5), true);
        due(sees("a7./8./8./8./8./8./#7./8.", 0, 7), false);
        // behind one of them, beside them
        due(sees("#a.#4./8./8./8./8./8./8./8.", 2, 0), true);
        due(sees("a7./.7#/.7#/.7#/.7#/.7#/.7#/.7#", 0, 7), true);
    }

    private static void housesBetween() {
        edge("9: no HOUSE between");
        due(sees("ab6./8./8./8./8./8./8./8.", 2, 0), false);
        due(sees("ab6./8./8./8./8./8./8./8.", 1, 0), true);
        due(sees("a.b5./8./8./8./8./8./8./8.", 7, 0), false);
        due(sees("a6.b/8./8./8./8./8./8./8.", 7, 0), true);
        due(sees("a7./b7./8./8./8./8./8./8.", 0, 2), false);
        due(sees("a7./8./8./8./8./8./8./b7.", 0, 7), true);
        due(sees("bac5./8./8./8./8./8./8./8.", 2, 0), true);
        // the ghost is away: its own HOUSE is one, too; on a HOUSE's spot it is seen
        GhostQuarter q = with(".a.b4./8./8./8./8./8./8./8.", "f1(1=1)");
        q.stranger(0, 0, 0, 999);
        walk(q, 0, "4e");
        due(q.tried(0, 5), 1);
        q.stranger(0, 2, 0, 999);
        due(q.tried(0, 5), 3);
        q.stranger(0, 7, 0, 999);
        due(q.tried(0, 5), 3);
        // STRANGERS don't stand between
        q.stranger(1, 6, 0, 999);
        due(q.tried(0, 5), 6);
    }

    private static void onOneSpot() {
        edge("9: or on one spot");
        GhostQuarter q = with("#######./a7#/8#/8#/8#/8#/8#/8#", "f1+a(1=1)");
        q.stranger(0, 0, 1, 999);
        due(q.tried(0, 5), 1);
        due(q.strangerIs(0, 4), 1);
        q.stranger(0, 7, 0, 999);
        due(q.tried(0, 5), 0);
        edge("9: a how far it is from the ghost, steps in x and y together: 0 to 7 in sight");
        quarter(q, LONE);
        law(q, "f1+a*10(1=1)");
        for (int x = 0; x < 8; x++) {
            q.stranger(0, x, 0, 999);
            due(q.tried(0, 5), 1 + 10 * x);
            q.stranger(0, 0, x, 999);
            due(q.tried(0, 5), 1 + 10 * x);
        }
    }

    private static void fearUpToMost() {
        edge("9: FEAR is more by f (999 at most)");
        GhostQuarter q = with(LONE, "f99(d<10);f8(d=10);f5(d>10)");
        q.stranger(0, 3, 0, 999);
        for (int night = 1; night <= 10; night++) {
            due(q.haunts(0), 0);
            due(q.strangerIs(0, 1), 99 * night);
        }
        due(q.haunts(0), 0);
        due(q.strangerIs(0, 1), 998);
        due(q.strangerIs(0, 3), 0);
        due(q.tried(0, 5), 1);
        due(q.tried(0, 10), 0);
        due(q.feared(0, 1), 1);
        due(q.dread(0, 1, 0), 5);
        due(q.haunts(0), 0);
        due(q.strangerIs(0, 1), 999);
        due(q.strangerIs(0, 3), 1);
    }

    private static void courageToTheNumber() {
        edge("9: at its COURAGE or above it pays, below it does not");
        for (int courage = 1; courage <= 7; courage++) {
            GhostQuarter q = with(LONE, "f2(1=1);c3(1=1)");
            walk(q, 0, "2.");
            q.stranger(0, 3, 0, courage);
            int minute = (courage + 1) / 2 - 1;
            due(q.tried(0, 10), courage > 6 ? -2 : minute);
            due(q.tried(0, 0), courage > 6 ? 0 : 3);
            due(q.tried(0, 5), courage > 6 ? 6 : 2 * (minute + 1));
        }
        // without FEAR nobody pays
        GhostQuarter q = with(LONE, "c3(1=1)");
        q.stranger(0, 3, 0, 1);
        due(q.tried(0, 1), 0);
    }

    private static void goneFromThenOn() {
        edge("9: and is gone from then on (it sees nothing more)");
        GhostQuarter q = with("a3.b3./8./8./8./8./8./8./8.", "f5(1=1);c3(1=1)");
        walk(q, 0, "5.");
        q.stranger(0, 3, 0, 10);
        due(q.tried(0, 3), 2);
        due(q.tried(0, 5), 10);
        due(q.tried(0, 0), 3);
        due(q.haunts(0), 3);
        due(q.haunts(0), 0);
        due(q.haunts(1), 0);
        due(q.tried(1, 3), 0);
        due(q.strangerIs(0, 1), 10);
        due(q.strangerIs(0, 4), 0);
        due(q.unseen(0, 3, 0), 0);
        due(q.dread(0, 9, 0), 0);
        due(q.feared(0, 0), -2);
        due(q.feared(0, 1), 0);
        due(q.count(2), 1);
        due(q.count(3), 1);
    }

    private static void paysByNumbers() {
        edge("9: each STRANGER pays c (asked then)");
        GhostQuarter q = with(LONE, "f5+5*g(1=1);c1+g*10+t*100(1=1)");
        walk(q, 0, "9.");
        q.stranger(0, 3, 0, 10);
        q.stranger(5, 3, 0, 30);
        q.stranger(9, 3, 0, 150);
        due(q.tried(0, 0), 101 + 51 + 291);
        due(q.tried(0, 10), 1);
        due(q.tried(0, 15), 0);
        due(q.tried(0, 19), 2);
        due(q.tried(0, 1), 1 + 32 + 512);
        due(q.tried(0, 3), 3);
    }

    private static void barksBeside() {
        edge("9: a DOG barks: the ghost is on its HOUSE's spot or beside it (4 ways)");
        for (int spot = 0; spot < 64; spot++) {
            int x = spot % 8;
            int y = spot / 8;
            int far = Math.abs(x - 3) + Math.abs(y - 4);
            if (far > 0) {
                StringBuilder text = new StringBuilder();
                for (int i = 0; i < 64; i++) {
                    text.append(i == spot ? 'a' : i == 35 ? 'b' : '.');
                    text.append(i % 8 == 7 && i < 63 ? "/" : "");
                }
                GhostQuarter q = with(text.toString(), "");
                q.dog(1, true);
                due(q.tried(0, 2), far == 1 ? 1 : 0);
            }
        }
        GhostQuarter q = with("8./8./8./8./2.ab4./8./8./8.", "");
        q.dog(1, true);
        walk(q, 0, "e");
        due(q.tried(0, 2), 2);
        // beside is beside: a wall is no matter
        quarter(q, "a#6./#b6./8./8./8./8./8./8.");
        due(q.tried(0, 2), 0);
    }

    private static void barksNotRoundTheBorder() {
        edge("9: the last spot of a row is not beside the first one of the next");
        GhostQuarter q = with("7.a/b7./8./8./8./8./8./8.", "");
        q.dog(0, true);
        q.dog(1, true);
        due(q.tried(0, 2), 0);
        due(q.tried(1, 2), 0);
        quarter(q, "a7./8./8./8./8./8./8./b7.");
        due(q.tried(0, 2), 0);
        quarter(q, "a6.b/8./8./8./8./8./8./8.");
        due(q.tried(0, 2), 0);
    }

    private static void barksNotTold() {
        edge("9: if it is not TOLD and not the ghost's own");
        GhostQuarter q = with("ab6./8./8./8./8./8./8./8.", "");
        q.dog(0, true);
        due(q.tried(0, 2), 0);
        due(q.tried(1, 2), 1);
        q.tells(0);
        due(q.tried(1, 2), 0);
        q.dog(0, true);
        due(q.tried(1, 2), 1);
        q.dog(0, false);
        due(q.tried(1, 2), 0);
        // a HOUSE without a spot has nothing to bark on
        q.dog(9, true);
        due(q.tried(0, 2), 0);
        // a NIGHT does not tell it
        q.dog(0, true);
        q.haunts(1);
        due(q.houseIs(0, 2), 1);
        due(q.tried(1, 2), 1);
    }

    private static void barksEachMinute() {
        edge("10: 2 barks: each DOG's each MINUTE");
        GhostQuarter q = with("bac5./d7./8./8./8./8./8./8.", "");
        q.dog(1, true);
        q.dog(2, true);
        q.dog(3, true);
        due(q.tried(0, 2), 2);
        walk(q, 0, "6(9.)6.");
        due(q.tried(0, 2), 122);
        walk(q, 0, "w");
        due(q.tried(0, 2), 2 + 2);
        walk(q, 0, "ws");
        due(q.tried(0, 2), 2 + 2 + 2);
        walk(q, 0, "wne");
        due(q.tried(0, 2), 2 + 2 + 2 + 1);
    }

    private static void triedWhat() {
        edge("10: NONE: no such ones, it has no spot");
        GhostQuarter q = with(LONE, "f1(1=1)");
        for (int h : FAR_OFF) {
            due(q.tried(h, 0), -1);
            due(q.tried(h, 20), -1);
        }
        due(q.tried(1, 0), -1);
        due(q.tried(9, 20), -1);
        int[] whats = {Integer.MIN_VALUE, -20, -10, -1, 6, 7, 8, 9, 21, 80, 81, 1000, Integer.MAX_VALUE};
        for (int what : whats) {
            due(q.tried(0, what), -1);
        }
        for (int what = 0; what <= 5; what++) {
            due(q.tried(0, what), 0);
        }
        for (int g = 0; g < 10; g++) {
            due(q.tried(0, 10 + g), -1);
        }
        due(q.tried(0, 20), 0);
        due(q.tried(1, 10), -1);
    }

    private static void triedMinutes() {
        edge("10: 20 + t the spot in MINUTE t (of those there are, 0 to 60)");
        GhostQuarter q = with(LONE, "");
        for (int steps = 1; steps <= 9; steps++) {
            walk(q, 0, times("n", steps));
            due(q.tried(0, 20 + steps), 8 * Math.min(7, steps));
            due(q.tried(0, 21 + steps), -1);
        }
        walk(q, 0, "6(9e)5e");
        due(q.tried(0, 79), 7);
        due(q.tried(0, 80), -1);
        walk(q, 0, "6(9e)6e");
        due(q.tried(0, 80), 7);
        due(q.tried(0, 81), -1);
        // the one before is not looked at
        walk(q, 0, "n");
        due(q.tried(0, 22), -1);
        due(q.tried(0, 4), 8);
    }

    private static void triedPays() {
        edge("10: 10 + g the MINUTE in which told STRANGER g pays (-2: it does not)");
        GhostQuarter q = with(LONE, "f1(1=1)");
        walk(q, 0, "6(9.)6.");
        q.stranger(0, 0, 0, 1);
        q.stranger(1, 0, 0, 61);
        q.stranger(2, 0, 0, 62);
        q.stranger(9, 1, 1, 1);
        due(q.tried(0, 10), 0);
        due(q.tried(0, 11), 60);
        due(q.tried(0, 12), -2);
        due(q.tried(0, 13), -1);
        due(q.tried(0, 18), -1);
        due(q.tried(0, 19), -2);
        due(q.tried(0, 1), 3);
        due(q.tried(0, 5), 1 + 61 + 61);
        // one that has paid does not pay
        q.haunts(0);
        due(q.tried(0, 10), -2);
        due(q.tried(0, 11), -2);
        due(q.tried(0, 12), 0);
        due(q.tried(0, 1), 4);
    }

    private static void triedChangesNothing() {
        edge("10: TRIED is a NIGHT (nothing is changed); m is not looked at");
        GhostQuarter q = with("ab6./8./8./8./8./8./8./8.", "m(1=2);f9(1=1);c4(1=1)");
        q.stranger(0, 0, 3, 9);
        q.dog(1, true);
        q.seed(5);
        for (int round = 0; round < 3; round++) {
            due(q.tried(0, 0), 4);
            due(q.tried(0, 1), 1);
            due(q.tried(0, 2), 1);
            due(q.count(0), 0);
            due(q.count(1), 0);
            due(q.count(3), 0);
            due(q.count(7), 5);
            due(q.strangerIs(0, 1), 0);
            due(q.houseIs(1, 2), 1);
        }
        due(q.undo(), false);
        due(q.haunts(0), -2);
    }

    private static void strangerIsWhat() {
        edge("11: NONE for others");
        GhostQuarter q = with(LONE, "");
        q.stranger(0, 1, 1, 5);
        q.stranger(9, 1, 1, 6);
        for (int g : FAR_OFF) {
            due(q.strangerIs(g, 0), -1);
        }
        for (int what = 0; what <= 4; what++) {
            due(q.strangerIs(1, what), -1);
            due(q.strangerIs(8, what), -1);
        }
        int[] whats = {Integer.MIN_VALUE, -1, 5, 10, Integer.MAX_VALUE};
        for (int what : whats) {
            due(q.strangerIs(0, what), -1);
            due(q.strangerIs(9, what), -1);
        }
        due(q.strangerIs(9, 2), 6);
    }

    private static void strangerIsSees() {
        edge("11: 4 HOUSES (bits) whose spot it sees (paid: 0; none: 0)");
        GhostQuarter q = with("a6.b/8./8./8./8./8./8./j6.i", "f9(1=1)");
        q.stranger(0, 0, 0, 9);
        q.stranger(1, 7, 7, 99);
        q.stranger(2, 3, 3, 99);
        due(q.strangerIs(0, 4), 1 + 2 + 512);
        due(q.strangerIs(1, 4), 2 + 256 + 512);
        due(q.strangerIs(2, 4), 0);
        q.haunts(0);
        due(q.strangerIs(0, 3), 1);
        due(q.strangerIs(0, 4), 0);
        due(q.strangerIs(0, 0), 0);
        due(q.strangerIs(0, 2), 9);
    }

    private static void houseIsWhat() {
        edge("12: NONE for others; 0 -2: no spot");
        GhostQuarter q = with("8./8./8./8./8./8./8./7.j", "");
        for (int h : FAR_OFF) {
            due(q.houseIs(h, 0), -1);
            due(q.houseIs(h, 4), -1);
        }
        int[] whats = {Integer.MIN_VALUE, -1, 5, 10, Integer.MAX_VALUE};
        for (int what : whats) {
            due(q.houseIs(0, what), -1);
            due(q.houseIs(9, what), -1);
        }
        due(q.houseIs(0, 0), -2);
        due(q.houseIs(8, 0), -2);
        due(q.houseIs(9, 0), 63);
        due(q.houseIs(0, 4), 0);
        q.hand(0, 255);
        due(q.houseIs(0, 4), 255);
    }

    private static void houseIsCanHaunt() {
        edge("12: 3 whether it can haunt now (a spot, m)");
        GhostQuarter q = with(LONE, "");
        due(q.houseIs(0, 3), 1);
        due(q.houseIs(1, 3), 0);
        law(q, "m(d=1|h=1)");
        due(q.houseIs(0, 3), 0);
        due(q.houseIs(1, 3), 0);
        law(q, "f0(1=1)");
        q.haunts(0);
        law(q, "m(d=1|h=1)");
        due(q.houseIs(0, 3), 1);
        law(q, "m(1/0=1)");
        due(q.houseIs(0, 3), 0);
    }

    private static void meetRefused() {
        edge("13: NONE: no such ones, one twice, without a spot (ahead of -2)");
        GhostQuarter q = with("a6.b/8./8./8./8./8./8./8.", "");
        for (int h : FAR_OFF) {
            due(q.meet(h, 0, 0), -1);
            due(q.meet(0, h, 0), -1);
            due(q.meet(h, h, 0), -1);
        }
        due(q.meet(0, 0, 0), -1);
        due(q.meet(1, 1, 0), -1);
        due(q.meet(2, 2, 0), -1);
        due(q.meet(0, 2, 0), -1);
        due(q.meet(2, 0, 0), -1);
        due(q.meet(2, 3, 0), -1);
        due(q.meet(0, 1, -1), -1);
        due(q.meet(0, 1, 3), -1);
        due(q.meet(0, 1, Integer.MAX_VALUE), -1);
        due(q.meet(0, 1, Integer.MIN_VALUE), -1);
        due(q.meet(0, 1, 0), -2);
        due(q.meet(0, 1, 1), -2);
        due(q.meet(0, 1, 2), -2);
    }

    private static void meetOnOneSpot() {
        edge("13: the first MINUTE in which they are on one spot");
        GhostQuarter q = with("8./8./3.ab3./8./8./8./8./8.", "");
        walk(q, 0, "en");
        walk(q, 1, ".n");
        due(q.meet(0, 1, 0), 1);
        due(q.meet(0, 1, 1), 20);
        due(q.meet(0, 1, 2), 20);
        walk(q, 0, ".n");
        walk(q, 1, ".nw");
        due(q.meet(0, 1, 0), 3);
        due(q.meet(1, 0, 0), 3);
        due(q.meet(0, 1, 1), 27);
        // where another one was is not where it is
        walk(q, 0, "nnnn");
        walk(q, 1, ".wnn");
        due(q.meet(0, 1, 0), -2);
    }

    private static void meetChangedPlaces() {
        edge("13: or have changed places");
        GhostQuarter q = with("8./8./3.ab3./8./8./8./8./8.", "");
        walk(q, 0, "e");
        walk(q, 1, "w");
        due(q.meet(0, 1, 0), 1);
        due(q.meet(0, 1, 1), 20);
        due(q.meet(0, 1, 2), 19);
        due(q.meet(1, 0, 1), 19);
        due(q.meet(1, 0, 2), 20);
        // to the other one's place, while that one goes on
        walk(q, 0, "e");
        walk(q, 1, "e");
        due(q.meet(0, 1, 0), -2);
        // in two MINUTES, round each other
        walk(q, 0, "nes");
        walk(q, 1, "sww");
        due(q.meet(0, 1, 0), -2);
        // a wall keeps both where they are
        quarter(q, "8./8./3.a#b2./8./8./8./8./8.");
        walk(q, 0, "2e");
        walk(q, 1, "2w");
        due(q.meet(0, 1, 0), -2);
    }

    private static void meetWhenOver() {
        edge("13: each that is over stays where it is; -2: never till both are over");
        GhostQuarter q = with("8./8./3.ab3./8./8./8./8./8.", "");
        due(q.meet(0, 1, 0), -2);
        walk(q, 1, "n2w2e2sw");
        due(q.meet(0, 1, 0), -2);
        walk(q, 1, "n2w2e2snw");
        due(q.meet(0, 1, 0), 9);
        due(q.meet(0, 1, 1), 19);
        due(q.meet(0, 1, 2), 19);
        due(q.meet(1, 0, 0), 9);
        walk(q, 0, "w");
        due(q.meet(0, 1, 0), -2);
        walk(q, 0, "we");
        due(q.meet(0, 1, 0), 9);
        walk(q, 0, "8.w");
        due(q.meet(0, 1, 0), -2);
        walk(q, 0, "9.w");
        due(q.meet(0, 1, 0), 9);
        walk(q, 0, "9.9.");
        due(q.meet(0, 1, 0), 9);
    }

    private static void meetAtTheLast() {
        edge("13: MINUTE 60 is one of them");
        GhostQuarter q = with("8./8./3.ab3./8./8./8./8./8.", "");
        walk(q, 1, "6(9.)5.w");
        due(q.meet(0, 1, 0), 60);
        walk(q, 0, "6(9.)5.e");
        due(q.meet(0, 1, 0), 60);
        due(q.meet(0, 1, 1), 20);
        due(q.meet(0, 1, 2), 19);
        walk(q, 0, "6(9.)5.n");
        due(q.meet(0, 1, 0), -2);
        walk(q, 0, "6(9.)4.e");
        walk(q, 1, "6(9.)6.");
        due(q.meet(0, 1, 0), 59);
    }
}
