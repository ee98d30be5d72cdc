/** The edges that the document names for the tape, THE QUARTER, WALKS and THE LAW (promises 1 to 5). */
public final class TextEdgesTest extends Rows {
    private static final int[] FAR_OFF = {Integer.MIN_VALUE, -1000, -1, 1000, 65536, Integer.MAX_VALUE};
    private static final String CLAUSE = "m(1=1)";

    public static void main(String[] args) {
        newObject();
        newObjectsAreApart();
        fedUpToFull();
        fedBytes();
        fedBehind();
        quarterLengths();
        quarterHasNotSoMany();
        quarterFirstBytes();
        quarterRows();
        quarterSpots();
        quarterDigits();
        quarterLetters();
        quarterSigns();
        quarterTooManyAtSpot();
        quarterTooManyAtDigit();
        quarterTwice();
        quarterFirstFault();
        quarterBeforeStays();
        quarterInPlace();
        quarterOnWalls();
        walkHouses();
        walkLengths();
        walkSigns();
        walkDigits();
        walkGroups();
        walkFourthOpen();
        walkMostSteps();
        walkTooManySteps();
        walkAskedWhenItEnds();
        walkEnds();
        walkBeforeStays();
        lawLengths();
        lawClauses();
        lawSeventeenth();
        lawLetters();
        lawDigits();
        lawSevenOpen();
        lawOpenTillItsPieceEnds();
        lawEnds();
        lawSigns();
        lawBeforeStays();
        lawBoundsOfFear();
        lawBoundsOfPay();
        lawBoundsOfTenths();
        lawFirstThatHolds();
        lawMayHaunt();
        lawNotTold();
        lawWrapsAround();
        lawSmallestThroughMinusOne();
        lawThroughNothing();
        lawRefusedCondition();
        lawAsMuchAsMatters();
        lawWeek();
        tell();
    }

    private static void newObject() {
        edge("1: a new object: all lanes, no STRANGERS, LAW; THE SEED 1; none KEPT");
        GhostQuarter q = new GhostQuarter();
        for (int spot = 0; spot < 64; spot++) {
            due(q.count(100 + spot), 0);
        }
        for (int what = 0; what <= 6; what++) {
            due(q.count(what), 0);
        }
        due(q.count(7), 1);
        for (int i = 0; i < 10; i++) {
            due(q.strangerIs(i, 0), -1);
            due(q.houseIs(i, 0), -2);
            due(q.houseIs(i, 1), 0);
            due(q.houseIs(i, 2), 0);
            due(q.houseIs(i, 3), 0);
            due(q.houseIs(i, 4), 0);
            due(q.haunts(i), -1);
        }
        due(q.undo(), false);
        due(q.quarter(1), -1);
    }

    private static void newObjectsAreApart() {
        edge("1: one object has nothing of another one");
        GhostQuarter q = with(THREE, "m(1=2)");
        q.stranger(0, 3, 3, 5);
        q.seed(77);
        q.keep();
        q.feed(1, 2, 3, 4, 5);
        GhostQuarter other = new GhostQuarter();
        due(other.count(4), 0);
        due(other.count(2), 0);
        due(other.count(5), 0);
        due(other.count(6), 0);
        due(other.count(7), 1);
        due(other.undo(), false);
        due(quarter(other, "8./8./8./8./8./8./8./a7."), 1);
        due(q.houseIs(0, 0), 0);
        due(other.houseIs(0, 3), 1);
        due(q.houseIs(0, 3), 0);
    }

    private static void fedUpToFull() {
        edge("2: NONE if that would be more than 260");
        GhostQuarter q = new GhostQuarter();
        for (int i = 1; i <= 13; i++) {
            due(q.feed(0x6E657377, 0x6E657377, 0x6E657377, 0x6E657377, 0x6E657377), 20 * i);
        }
        due(q.feed(0, 0, 0, 0, 0), -1);
        due(q.feed(-1, -1, -1, -1, -1), -1);
        due(q.count(6), 260);
        due(q.walk(0, 61), -6060);
        due(q.count(6), 0);
        due(q.feed(0, 0, 0, 0, 0), 20);
    }

    private static void fedBytes() {
        edge("2: twenty bytes, the highest of each int first");
        GhostQuarter q = with(THREE, "");
        // 0, 7 MINUTES; 128 on: bytes have no sign
        q.feed(0x00000007, 0x80008138, 0xFF38FF38, 0x00000000, 0x00000001);
        due(q.sightings(6, 0), 2);
        q.feed(0xFF00FF00, 0xFF00FF00, 0xFF00FF00, 0xFF00FF00, 0xFF00FF00);
        due(q.sightings(10, 0), 1);
        q.feed(0x6E657377, 0x2E6E6573, 0x772E6E65, 0x73772E6E, 0x65737778);
        due(q.walk(0, 20), -1019);
        q.feed(0x6E657377, 0x2E6E6573, 0x772E6E65, 0x73772E6E, 0x65737778);
        due(q.walk(0, 19), 19);
        q.feed(Integer.MIN_VALUE, Integer.MAX_VALUE, -1, 0, 1);
        due(q.check(5), 0);
        q.feed(0, 0, 0, 0, -1);
        due(q.check(5), 4);
    }

    private static void fedBehind() {
        edge("2: they come behind the tape");
        GhostQuarter q = new GhostQuarter();
        due(q.feed(0x6E6E6E6E, 0x6E6E6E6E, 0x6E6E6E6E, 0x6E6E6E6E, 0x6E6E6E6E), 20);
        due(q.feed(0x6E780000, 0, 0, 0, 0), 40);
        due(q.walk(0, 22), -1021);
        due(q.feed(0x78000000, 0, 0, 0, 0), 20);
        due(q.walk(0, 1), -1000);
    }

    private static void quarterLengths() {
        edge("3: n 1 to 120; NONE: no such n (the tape stays)");
        GhostQuarter q = new GhostQuarter();
        tape(q, times("x", 140));
        due(q.quarter(0), -1);
        due(q.quarter(121), -1);
        for (int n : FAR_OFF) {
            due(q.quarter(n), -1);
        }
        due(q.count(6), 140);
        due(q.quarter(120), -1000);
        due(q.count(6), 0);
        tape(q, "x");
        due(q.quarter(1), -1000);
        tape(q, "8");
        due(q.quarter(1), -1001);
        // the longest text of all, 71 bytes
        due(quarter(q, times("......../", 7) + "........"), 0);
        due(quarter(q, times("#######./", 7) + "abcdefgh"), 8);
        due(q.count(163), 9);
    }

    private static void quarterHasNotSoMany() {
        edge("3: NONE: it has not so many (the tape stays)");
        GhostQuarter q = new GhostQuarter();
        due(q.quarter(1), -1);
        due(q.quarter(23), -1);
        feed(q, EMPTY);
        due(q.quarter(41), -1);
        due(q.count(6), 40);
        due(q.quarter(23), 0);
        due(q.quarter(1), -1);
        feed(q, times("x", 120));
        due(q.quarter(120), -1000);
        feed(q, times("x", 100));
        due(q.quarter(101), -1);
        due(q.quarter(100), -1000);
    }

    private static void quarterFirstBytes() {
        edge("3: by the first n bytes of the tape, empty then");
        GhostQuarter q = new GhostQuarter();
        tape(q, "a7./8./8./8./8./8./8./8.b");
        due(q.quarter(24), 1);
        due(q.count(6), 0);
        tape(q, "a7./8./8./8./8./8./8./8.b");
        due(q.quarter(25), -6024);
        due(q.count(6), 0);
        tape(q, "a7./8./8./8./8./8./8./8.");
        due(q.quarter(22), -1022);
        due(q.count(6), 0);
    }

    private static void quarterRows() {
        edge("3: 8 ROWS with a / between two; the end, too, can stand where it can't");
        GhostQuarter q = new GhostQuarter();
        for (int rows = 1; rows < 8; rows++) {
            String text = times("8./", rows - 1) + "8.";
            due(quarter(q, text), -1000 - text.length());
            due(quarter(q, text + "/"), -1001 - text.length());
        }
        due(quarter(q, EMPTY), 0);
        due(quarter(q, EMPTY + "/"), -1023);
        due(quarter(q, EMPTY + "/8."), -1023);
        due(quarter(q, "/"), -1000);
        due(quarter(q, "8.//8."), -1003);
        due(quarter(q, "8.8."), -6002);
    }

    private static void quarterSpots() {
        edge("3: each ROW of 8 spots: a ROW's end ahead of its 8th spot is 1");
        GhostQuarter q = new GhostQuarter();
        for (int spots = 0; spots < 8; spots++) {
            due(quarter(q, times(".", spots) + "/8./8./8./8./8./8./8."), -1000 - spots);
            String last = "8./8./8./8./8./8./8./" + times("#", spots);
            due(quarter(q, last), -1000 - last.length());
        }
        due(quarter(q, "7.#/#7./2.3#3./......../4.4./5.a2./a7./8."), -7035);
        due(quarter(q, "7.#/#7./2.3#3./......../4.4./5.a2./b7./8."), 2);
        due(q.count(107), 1);
        due(q.count(108), 1);
        due(q.count(109), 0);
        due(q.count(117), 0);
        due(q.count(118), 1);
        due(q.count(120), 1);
        due(q.count(121), 0);
        due(q.count(145), 2);
        due(q.count(148), 3);
    }

    private static void quarterDigits() {
        edge("3: ahead of a dot or # a digit 2 to 8; ahead of a letter 1 at the letter");
        GhostQuarter q = new GhostQuarter();
        String rest = "/8./8./8./8./8./8./8.";
        for (int digit = 2; digit <= 8; digit++) {
            String filled = times(".", 8 - digit);
            due(quarter(q, filled + digit + "#" + rest), 0);
            due(q.count(107), 1);
            due(q.count(100), digit == 8 ? 1 : 0);
            due(q.count(108 - digit), 1);
            due(q.count(digit == 8 ? 108 : 107 - digit), 0);
            due(quarter(q, filled + digit + "." + rest), 0);
            due(q.count(107), 0);
        }
        due(quarter(q, "1." + rest), -1000);
        due(quarter(q, "9." + rest), -1000);
        due(quarter(q, "0." + rest), -1000);
        due(quarter(q, "2a6." + rest), -1001);
        due(quarter(q, "6.2j" + rest), -1003);
        due(quarter(q, "22.4." + rest), -1001);
        due(quarter(q, "21." + rest), -1001);
        due(quarter(q, "29." + rest), -1001);
        due(quarter(q, "6.2" + rest), -1003);
        due(quarter(q, "6.2"), -1003);
        due(quarter(q, "2"), -1001);
    }

    private static void quarterLetters() {
        edge("3: a letter a to j (HOUSE 0 to 9), one spot each at most");
        GhostQuarter q = new GhostQuarter();
        due(quarter(q, "abcdefgh/6.ij/8./8./8./8./8./8."), 10);
        due(q.count(4), 1023);
        due(q.houseIs(0, 0), 0);
        due(q.houseIs(7, 0), 7);
        due(q.houseIs(8, 0), 14);
        due(q.houseIs(9, 0), 15);
        due(q.count(115), 11);
        due(quarter(q, EMPTY), 0);
        due(q.count(4), 0);
        due(quarter(q, "8./8./8./8./8./8./8./j6.a"), 2);
        due(q.houseIs(9, 0), 56);
        due(q.houseIs(0, 0), 63);
        due(quarter(q, "k7./8./8./8./8./8./8./8."), -1000);
        due(quarter(q, "`7./8./8./8./8./8./8./8."), -1000);
        due(quarter(q, "A7./8./8./8./8./8./8./8."), -1000);
        due(quarter(q, "J7./8./8./8./8./8./8./8."), -1000);
    }

    private static void quarterSigns() {
        edge("3: 1 what can't stand there, for each byte");
        for (int sign = 0; sign < 256; sign++) {
            GhostQuarter q = new GhostQuarter();
            boolean can = sign == '.' || sign == '#' || sign >= 'a' && sign <= 'j';
            String text = bytes(sign) + "7./8./8./8./8./8./8./8.";
            int want = can ? sign >= 'a' ? 1 : 0 : -1000;
            if (sign >= '2' && sign <= '8') {
                // a digit behind a digit
                want = -1001;
            }
            due(quarter(q, text), want);
            // behind a full ROW only a / can stand, and what is too many
            boolean tooMany = can || sign >= '2' && sign <= '8';
            due(quarter(q, "8." + bytes(sign)), sign == '/' ? -1003 : tooMany ? -6002 : -1002);
        }
    }

    private static void quarterTooManyAtSpot() {
        edge("3: 6 more than 8 in a ROW, at the spot");
        GhostQuarter q = new GhostQuarter();
        due(quarter(q, "........."), -6008);
        due(quarter(q, "########"), -1008);
        due(quarter(q, "#########"), -6008);
        due(quarter(q, "8.."), -6002);
        due(quarter(q, "8#."), -6002);
        due(quarter(q, "8.#"), -6002);
        due(quarter(q, "8.a"), -6002);
        due(quarter(q, "4.4.a"), -6004);
        due(quarter(q, "abcdefghi"), -6008);
        due(quarter(q, EMPTY + "."), -6023);
        due(quarter(q, EMPTY + "j"), -6023);
        due(quarter(q, "8./8./8./8./8./8./8./7..."), -6024);
    }

    private static void quarterTooManyAtDigit() {
        edge("3: 6 at the digit, asked ahead of what follows it");
        GhostQuarter q = new GhostQuarter();
        for (int has = 1; has <= 8; has++) {
            for (int digit = 2; digit <= 8; digit++) {
                int fits = has + digit <= 8 ? 1 : 0;
                String text = times(".", has) + digit;
                due(quarter(q, text), fits == 1 ? -1001 - has : -6000 - has);
                due(quarter(q, text + "x"), fits == 1 ? -1001 - has : -6000 - has);
                if (fits == 0 && digit == 9 - has) {
                    due(quarter(q, text + "a"), -6000 - has);
                    due(quarter(q, text + "2"), -6000 - has);
                    due(quarter(q, text + "/"), -6000 - has);
                    due(quarter(q, text + "."), -6000 - has);
                }
            }
        }
        due(quarter(q, "8.9."), -1002);
        due(quarter(q, "8.1."), -1002);
        due(quarter(q, EMPTY + "2"), -6023);
    }

    private static void quarterTwice() {
        edge("3: 7 a HOUSE twice, at its letter");
        GhostQuarter q = new GhostQuarter();
        due(quarter(q, "aa6./8./8./8./8./8./8./8."), -7001);
        due(quarter(q, "a6.a/8./8./8./8./8./8./8."), -7003);
        due(quarter(q, "j7./8./8./8./8./8./8./7.j"), -7024);
        due(quarter(q, "abcdefgh/ij4.ca/8./8./8./8./8./8."), -7013);
        // of a letter that is too many, and twice: that it is too many comes first
        due(quarter(q, "a7.a"), -6003);
        due(quarter(q, "2.a5.2a"), -6005);
        // a digit ahead of it comes first
        due(quarter(q, "a2a"), -1002);
    }

    private static void quarterFirstFault() {
        edge("3: FAULTS: the first from the left");
        GhostQuarter q = new GhostQuarter();
        due(quarter(q, "aax/"), -7001);
        due(quarter(q, "axa/"), -1001);
        due(quarter(q, "8..aa"), -6002);
        due(quarter(q, "7./aa"), -1002);
        due(quarter(q, "7./..........."), -1002);
        due(quarter(q, "aa.........../"), -7001);
        due(quarter(q, ".........aa"), -6008);
    }

    private static void quarterBeforeStays() {
        edge("3: a FAULT: the one before stays; the tape is empty");
        GhostQuarter q = with("#a6./8./8./8./8./8./8./7.b", "");
        q.stranger(0, 4, 4, 7);
        String[] texts = {"8#/8#/8#/8#/8#/8#/8#/8#/", "c7#/8#/8#/8#/8#/8#/8#/7#", "3#b4#/8#/8#/8#/8#/8#/b7#/8#"};
        for (String text : texts) {
            due(quarter(q, text) < -1000, true);
            due(q.count(6), 0);
            due(q.count(4), 3);
            due(q.houseIs(0, 0), 1);
            due(q.houseIs(1, 0), 63);
            due(q.houseIs(2, 0), -2);
            due(q.count(100), 1);
            due(q.count(103), 0);
            due(q.count(136), 0);
            due(q.strangerIs(0, 0), 36);
            due(q.strangerIs(0, 4), 0);
            due(q.unseen(0, 62, 1), 12);
        }
    }

    private static void quarterInPlace() {
        edge("3: in place of the one before: HOUSES, walls and lanes of it are gone");
        GhostQuarter q = with("#a6./8./8./8./8./8./8./7.b", "");
        walk(q, 0, "3n");
        q.dog(0, true);
        q.hand(0, 8);
        due(quarter(q, "a#6./8./8./8./8./8./8./8."), 1);
        due(q.houseIs(0, 0), 0);
        due(q.houseIs(1, 0), -2);
        due(q.count(100), 2);
        due(q.count(101), 1);
        due(q.count(163), 0);
        due(q.count(4), 1);
        // only THE QUARTER is another one
        due(q.houseIs(0, 1), 3);
        due(q.houseIs(0, 2), 1);
        due(q.houseIs(0, 4), 8);
        due(q.tried(0, 4), 24);
        due(q.haunts(1), -1);
    }

    private static void quarterOnWalls() {
        edge("3: STRANGERS on walls are gone: no more told");
        GhostQuarter q = with("a7./8./8./8./8./8./8./8.", "f9(1=1)");
        q.stranger(0, 1, 0, 9);
        q.stranger(1, 2, 0, 99);
        q.stranger(2, 3, 0, 99);
        q.stranger(9, 7, 7, 99);
        due(q.haunts(0), 0);
        due(q.count(3), 1);
        due(quarter(q, ".#b5./8./8./8./8./8./8./7.#"), 1);
        due(q.count(2), 4 + 2);
        due(q.count(3), 0);
        due(q.strangerIs(0, 0), -1);
        due(q.strangerIs(9, 0), -1);
        due(q.strangerIs(1, 0), 2);
        due(q.strangerIs(1, 1), 9);
        due(q.strangerIs(1, 2), 99);
        due(q.strangerIs(2, 1), 9);
        // they don't come back with the lanes
        due(quarter(q, "a7./8./8./8./8./8./8./8."), 1);
        due(q.count(2), 6);
        due(q.strangerIs(0, 0), -1);
        due(q.tried(0, 10), -1);
        due(q.feared(9, 0), -1);
    }

    private static void walkHouses() {
        edge("4: NONE: no such HOUSE (the tape stays); one without a spot has a WALK, too");
        GhostQuarter q = new GhostQuarter();
        feed(q, "nnx");
        due(q.walk(10, 2), -1);
        due(q.walk(10, 3), -1);
        for (int h : FAR_OFF) {
            due(q.walk(h, 2), -1);
        }
        due(q.count(6), 20);
        due(q.walk(0, 2), 2);
        due(q.houseIs(0, 1), 2);
        due(walk(q, 9, "3n"), 3);
        due(q.houseIs(9, 1), 3);
        due(q.houseIs(8, 1), 0);
    }

    private static void walkLengths() {
        edge("4: n 1 to 80; NONE: no such n, it has not so many (the tape stays)");
        GhostQuarter q = new GhostQuarter();
        due(q.walk(0, 1), -1);
        feed(q, times("(.)", 20) + times(".", 20) + times("n", 20));
        due(q.walk(0, 0), -1);
        due(q.walk(0, 81), -1);
        due(q.walk(0, 101), -1);
        for (int n : FAR_OFF) {
            due(q.walk(0, n), -1);
        }
        due(q.count(6), 100);
        due(q.walk(0, 80), 40);
        due(q.count(6), 0);
        feed(q, ".");
        due(q.walk(0, 21), -1);
        due(q.count(6), 20);
        due(q.walk(0, 1), 1);
        due(q.walk(0, 1), -1);
        feed(q, "nnn");
        due(q.walk(0, 20), -1003);
        due(q.count(6), 0);
    }

    private static void walkSigns() {
        edge("4: n e s w and a dot, no blanks: 1 what can't stand there, for each byte");
        for (int sign = 0; sign < 256; sign++) {
            GhostQuarter q = new GhostQuarter();
            boolean can = sign == 'n' || sign == 'e' || sign == 's' || sign == 'w' || sign == '.';
            boolean opens = sign == '(' || sign >= '2' && sign <= '9';
            due(walk(q, 0, bytes(sign)), can ? 1 : opens ? -1001 : -1000);
            due(walk(q, 0, "n" + bytes(sign) + "n"),
                can ? 3 : sign == '(' ? -1003 : opens ? 1 + sign - '0' : -1001);
            due(walk(q, 0, "2" + bytes(sign)), can ? 2 : sign == '(' ? -1002 : -1001);
        }
    }

    private static void walkDigits() {
        edge("4: ahead of each perhaps a digit 2 to 9");
        GhostQuarter q = new GhostQuarter();
        for (int digit = 2; digit <= 9; digit++) {
            due(walk(q, 0, digit + "."), digit);
            due(walk(q, 0, digit + "(.)"), digit);
            due(walk(q, 0, digit + "" + digit + "."), -1001);
        }
        due(walk(q, 0, "1."), -1000);
        due(walk(q, 0, "0."), -1000);
        due(walk(q, 0, "1(.)"), -1000);
        due(walk(q, 0, "0(.)"), -1000);
        due(walk(q, 0, "2"), -1001);
        due(walk(q, 0, "(2)"), -1002);
        due(walk(q, 0, "(n2)"), -1003);
        due(walk(q, 0, "n2"), -1002);
    }

    private static void walkGroups() {
        edge("4: (STEPS) likewise: at least one STEP; open and shut");
        GhostQuarter q = with("8./8./8./3.a4./8./8./8./8.", "");
        due(walk(q, 0, "(n)"), 1);
        due(walk(q, 0, "2(n)"), 2);
        due(walk(q, 0, "2(ne)s"), 5);
        int[] path = {27, 35, 36, 44, 45, 37};
        for (int t = 0; t <= 5; t++) {
            due(q.tried(0, 20 + t), path[t]);
        }
        due(walk(q, 0, "2(2(nw)e)"), 10);
        int[] other = {27, 35, 34, 42, 41, 42, 50, 49, 57, 56, 57};
        for (int t = 0; t <= 10; t++) {
            due(q.tried(0, 20 + t), other[t]);
        }
        due(walk(q, 0, "()"), -1001);
        due(walk(q, 0, "2()"), -1002);
        due(walk(q, 0, "(())"), -1002);
        due(walk(q, 0, "(n())"), -1003);
        due(walk(q, 0, "n()"), -1002);
        due(walk(q, 0, ")"), -1000);
        due(walk(q, 0, "n)"), -1001);
        due(walk(q, 0, "(n))"), -1003);
        due(walk(q, 0, "((n)"), -1004);
        due(walk(q, 0, "(n"), -1002);
        due(walk(q, 0, "("), -1001);
    }

    private static void walkFourthOpen() {
        edge("4: 5 a fourth ( that is open in another one, at it");
        GhostQuarter q = new GhostQuarter();
        due(walk(q, 0, "(((n)))"), 1);
        due(walk(q, 0, "((((n))))"), -5003);
        due(walk(q, 0, "(((2(n))))"), -5004);
        due(walk(q, 0, "2(3(n2(n)))"), 18);
        due(walk(q, 0, "(((n(n))))"), -5004);
        due(walk(q, 0, "(((n)(n)(n)))"), 3);
        due(walk(q, 0, "(n)(n)(n)(n)(((n)))"), 5);
        due(walk(q, 0, "(((n)))(((n)((n)"), -5013);
        due(walk(q, 0, "(((("), -5003);
        due(walk(q, 0, "((("), -1003);
    }

    private static void walkMostSteps() {
        edge("4: 60 STEPS at most in all");
        GhostQuarter q = with("a7./8./8./8./8./8./8./8.", "");
        due(walk(q, 0, times("n", 60)), 60);
        due(walk(q, 0, "6(9n)6n"), 60);
        due(walk(q, 0, "6n6(9n)"), 60);
        due(walk(q, 0, "5(3(4n))"), 60);
        due(walk(q, 0, "3(4(5(n)))"), 60);
        due(walk(q, 0, "6(9.n)"), 60);
        due(q.houseIs(0, 1), 60);
        due(q.tried(0, 4), 48);
        due(q.tried(0, 80), 48);
        due(q.tried(0, 81), -1);
    }

    private static void walkTooManySteps() {
        edge("4: 6 more than 60, at the first byte of the STEP (or its digit) by which they are");
        GhostQuarter q = new GhostQuarter();
        due(walk(q, 0, times("n", 61)), -6060);
        due(walk(q, 0, times("n", 80)), -6060);
        due(walk(q, 0, times("n", 60) + "2n"), -6060);
        due(walk(q, 0, times("n", 59) + "2n"), -6059);
        due(walk(q, 0, times("n", 59) + "2nx"), -6059);
        due(walk(q, 0, times("n", 60) + "x"), -1060);
        due(walk(q, 0, times("n", 60) + "2x"), -1061);
        due(walk(q, 0, "6(9n)7n"), -6005);
        due(walk(q, 0, "7(9n)"), -6000);
        due(walk(q, 0, "(7(9n))"), -6001);
        due(walk(q, 0, times("n", 40) + "3(7n)"), -6040);
        due(walk(q, 0, times("n", 40) + "2(2(5n)1"), -1047);
        due(walk(q, 0, times("n", 52) + "(9n)"), -6053);
        due(walk(q, 0, times("n", 51) + "(9n)"), 60);
        due(walk(q, 0, times("n", 51) + "(9nn)"), -6054);
        edge("4: of an inner one first");
        due(walk(q, 0, "9(9(9n))"), -6002);
        due(walk(q, 0, "9(9n)"), -6000);
        due(walk(q, 0, "9(6(9n))"), -6000);
        due(walk(q, 0, "2(n9(9(9n)))"), -6005);
    }

    private static void walkAskedWhenItEnds() {
        edge("4: asked when it ends: what stands in it comes first");
        GhostQuarter q = new GhostQuarter();
        due(walk(q, 0, "7(9nx)"), -1004);
        due(walk(q, 0, "7(9n"), -1004);
        due(walk(q, 0, "7(9n2)"), -1005);
        due(walk(q, 0, "7(9n((((n"), -5006);
        due(walk(q, 0, "7(9n)x"), -6000);
        due(walk(q, 0, "6(9n)7x"), -1006);
        due(walk(q, 0, "6(9n)7"), -1006);
        due(walk(q, 0, "6(9n)(7n)x"), -6006);
    }

    private static void walkEnds() {
        edge("4: 1 the end, too, where the text can't end");
        GhostQuarter q = new GhostQuarter();
        due(walk(q, 0, "3"), -1001);
        due(walk(q, 0, "n3"), -1002);
        due(walk(q, 0, "3("), -1002);
        due(walk(q, 0, "3(n"), -1003);
        due(walk(q, 0, "3(n3"), -1004);
        due(walk(q, 0, times("(.)", 26) + "(."), -1080);
        due(walk(q, 0, times("(.)", 26) + "n3"), -1080);
    }

    private static void walkBeforeStays() {
        edge("4: a FAULT: the one before stays; the tape is empty; in place of the one before else");
        GhostQuarter q = with("a7./8./8./8./8./8./8./8.", "");
        due(walk(q, 0, "3ne"), 4);
        String[] texts = {"eex", "7(9e)", "((((e", "ee2"};
        for (String text : texts) {
            due(walk(q, 0, text) < -1000, true);
            due(q.count(6), 0);
            due(q.houseIs(0, 1), 4);
            due(q.tried(0, 21), 8);
            due(q.tried(0, 4), 25);
        }
        due(walk(q, 0, "."), 1);
        due(q.houseIs(0, 1), 1);
        due(q.tried(0, 4), 0);
        due(q.tried(0, 22), -1);
    }

    private static void lawLengths() {
        edge("5: n 1 to 240; NONE: no such n, it has not so many (the tape stays)");
        GhostQuarter q = new GhostQuarter();
        due(q.law(1), -1);
        feed(q, "m(1=1" + times("+1", 117) + ")))");
        due(q.law(0), -1);
        due(q.law(241), -1);
        for (int n : FAR_OFF) {
            due(q.law(n), -1);
        }
        due(q.count(6), 260);
        due(q.law(240), 1);
        due(q.count(6), 0);
        feed(q, CLAUSE);
        due(q.law(21), -1);
        due(q.count(6), 20);
        due(q.law(6), 1);
        due(q.law(1), -1);
        feed(q, CLAUSE);
        due(q.law(1), -1001);
        feed(q, CLAUSE);
        due(q.law(20), -1006);
        due(q.count(6), 0);
    }

    private static void lawClauses() {
        edge("5: 16 CLAUSES at most with a ; between two");
        GhostQuarter q = new GhostQuarter();
        due(q.count(5), 0);
        for (int many = 1; many <= 16; many++) {
            due(law(q, times(CLAUSE + ";", many - 1) + CLAUSE), many);
            due(q.count(5), many);
        }
        due(law(q, times("f0(1=1);", 15) + "m(1=2)"), 16);
        GhostQuarter p = with(THREE, times("r0(1=2);", 15) + "r7(1=1)");
        due(p.odds(1, 1, 0), 7);
        due(law(p, times("m(1=2);", 15) + "m(h=1)"), 16);
        due(p.houseIs(1, 3), 1);
        due(p.houseIs(0, 3), 0);
        // of sixteen none holds
        due(law(p, times("r5(1=2);", 15) + "r7(1=2)"), 16);
        due(p.odds(1, 1, 0), 0);
        due(law(p, times("m(1=2);", 16).substring(0, 111)), 16);
        due(p.houseIs(1, 3), 0);
        // those of the law before are gone, of each one before
        for (int many = 16; many > 1; many--) {
            due(law(p, times("r9(1=1);", many - 1) + "m(h=1)"), many);
            due(p.odds(1, 1, 0), 9);
            due(p.houseIs(0, 3), 0);
            due(p.houseIs(1, 3), 1);
            due(law(p, "r1+1+1+1+1+1+1+1+1+1+1+1+1+1(1=2|1=2|1=2)"), 1);
            due(p.odds(1, 1, 0), 0);
            due(p.houseIs(0, 3), 1);
        }
        due(law(q, CLAUSE + ";"), -1007);
        due(law(q, ";" + CLAUSE), -1000);
        due(law(q, CLAUSE + ";;" + CLAUSE), -1007);
        due(law(q, CLAUSE + CLAUSE), -1006);
    }

    private static void lawSeventeenth() {
        edge("5: 4 a 17th CLAUSE, at its letter (if that can stand there)");
        GhostQuarter q = new GhostQuarter();
        String sixteen = times(CLAUSE + ";", 15) + CLAUSE;
        for (char letter : "fcmr".toCharArray()) {
            due(law(q, sixteen + ";" + letter), -4112);
            due(law(q, sixteen + ";" + letter + "x"), -4112);
        }
        due(law(q, sixteen + ";x"), -1112);
        due(law(q, sixteen + ";1"), -1112);
        due(law(q, sixteen + ";"), -1112);
        due(law(q, sixteen + "x"), -1111);
        due(law(q, sixteen + ";m(1=1);m(1=1)"), -4112);
        due(q.count(5), 0);
    }

    private static void lawLetters() {
        edge("5: a letter f c m r; E, but of m only (C)");
        for (int sign = 0; sign < 256; sign++) {
            GhostQuarter q = new GhostQuarter();
            boolean valued = sign == 'f' || sign == 'c' || sign == 'r';
            due(law(q, bytes(sign) + "1(1=1)"), valued ? 1 : sign == 'm' ? -1001 : -1000);
            due(law(q, bytes(sign) + "(1=1)"), valued ? -1001 : sign == 'm' ? 1 : -1000);
        }
    }

    private static void lawDigits() {
        edge("5: a number of one to five digits; 2 a sixth digit, at it");
        GhostQuarter q = new GhostQuarter();
        for (int digits = 1; digits <= 5; digits++) {
            due(law(q, "f" + times("9", digits) + "(1=1)"), 1);
            due(law(q, "m(" + times("0", digits) + "=1)"), 1);
        }
        due(law(q, "f000001(1=1)"), -2006);
        due(law(q, "f999999(1=1)"), -2006);
        due(law(q, "f9999999(1=1)"), -2006);
        due(law(q, "f123456"), -2006);
        due(law(q, "f12345"), -1006);
        due(law(q, "m(1=000000)"), -2009);
        due(law(q, "m(00000=00000)"), 1);
        due(law(q, "f1+12345+123456(1=1)"), -2014);
        due(law(q, "f12345x"), -1006);
        GhostQuarter p = with(THREE, "m(99999>99998&99999=9999*10+9&00010=10)");
        due(p.houseIs(0, 3), 1);
    }

    private static void lawSevenOpen() {
        edge("5: 5 a seventh of ( [ ! that are open in one another, at it");
        GhostQuarter q = new GhostQuarter();
        due(law(q, "m((((((1=1))))))"), 1);
        due(law(q, "m(((((((1=1)))))))"), -5007);
        due(law(q, "f[[[[[[1]]]]]](1=1)"), 1);
        due(law(q, "f[[[[[[[1]]]]]]](1=1)"), -5007);
        due(law(q, "m([[[[[1]]]]]=1)"), 1);
        due(law(q, "m([[[[[[1]]]]]]=1)"), -5007);
        due(law(q, "m(1=[[[[[1]]]]])"), 1);
        due(law(q, "m(1=[[[[[[1]]]]]])"), -5009);
        due(law(q, "m(!!!!!1=1)"), 1);
        due(law(q, "m(!!!!!!1=1)"), -5007);
        due(law(q, "m(!(!(![1]=1)))"), -5007);
        due(law(q, "m(!(!([1]=1)))"), 1);
        due(law(q, "m((!(!([1]=1))))"), -5007);
        due(law(q, "m(!(!([[1]]=1)))"), -5007);
        due(law(q, "m(!!!!!(1=1))"), -5007);
        due(law(q, "m(!!!!(1=1))"), 1);
        edge("5: the E of a CLAUSE stands ahead of its (");
        due(law(q, "f[[[[[[1]]]]]]((((((1=1))))))"), 1);
        due(law(q, "f[[[[[[1]]]]]](((((((1=1)))))))"), -5020);
        edge("5: those that are shut don't count");
        due(law(q, "f[1]+[1]+[1]+[1]+[1]+[1]+[1](1=1)"), 1);
        due(law(q, "m((1=1)&(1=1)&(1=1)&(1=1)&(1=1)&(1=1)&(1=1))"), 1);
        due(law(q, "m([1]+[1]+[1]+[1]+[1]+[1]+[1]=1)"), 1);
        edge("5: a seventh that can't stand there is 1");
        due(law(q, "f[[[[[[("), -1007);
        due(law(q, "f[[[[[[!"), -1007);
        due(law(q, "m((((((1=("), -1009);
        due(law(q, "m((((((1=!"), -1009);
        due(law(q, "m((((((1["), -1008);
    }

    private static void lawOpenTillItsPieceEnds() {
        edge("5: a ! is open till its PIECE ends");
        GhostQuarter q = new GhostQuarter();
        due(law(q, "m(!!!!![1]=1)"), -5007);
        due(law(q, "m(!!!!1=[1])"), 1);
        due(law(q, "m(!!!!!1=[1])"), -5009);
        due(law(q, "m(!!!!!1=1&!!!!!1=1)"), 1);
        due(law(q, "m(!!!!!1=1|!!!!!1=1)"), 1);
        due(law(q, "m(!!!!!1=1&[[[[[1]]]]]=1)"), 1);
        due(law(q, "m(!!!!!1=1&[[[[[[1]]]]]]=1)"), -5016);
        due(law(q, "m(!(1=1)&((((1=1)))))"), 1);
        due(law(q, "m(!(!(!1=1&!1=1)&!1=1))"), 1);
        due(law(q, "m(!(!(!1=1&!!1=1)&!1=1))"), -5012);
    }

    private static void lawEnds() {
        edge("5: 1 the end, too, where the text can't end");
        String text = "f1+[2*h](!(1<2)&3>k|g=0);m(w=1)";
        GhostQuarter q = new GhostQuarter();
        for (int n = 1; n < text.length(); n++) {
            int want = n == text.indexOf(';') ? 1 : -1000 - n;
            due(law(q, text.substring(0, n)), want);
        }
        due(law(q, text), 2);
    }

    /** What can stand behind each beginning, of all bytes. */
    private static void canFollow(String start, String can) {
        GhostQuarter q = new GhostQuarter();
        for (int sign = 0; sign < 256; sign++) {
            if (sign % 64 == 0) {
                q = new GhostQuarter();
            }
            String text = start + bytes(sign);
            // what can stand there is no fault at its place; the end behind it may be one
            boolean stands = can.indexOf(sign) >= 0;
            int told = law(q, text);
            due(told == -1000 - start.length(), !stands);
        }
    }

    private static void lawSigns() {
        edge("5: no blanks; 1 what can't stand there, for each byte");
        String factor = "0123456789[hjgabktdwo";
        canFollow("f", factor);
        canFollow("m", "(");
        canFollow("m(", factor + "!(");
        canFollow("m(!", factor + "!(");
        canFollow("m(1", "0123456789+-*/%<>=");
        canFollow("m(h", "+-*/%<>=");
        canFollow("m(1=", factor);
        canFollow("m(1<h", "+-*/%&|)");
        canFollow("m(1=1&", factor + "!(");
        canFollow("m(1=1|", factor + "!(");
        canFollow("m((1=1)", "&|)");
        canFollow("m(1=1)", ";");
        canFollow("m(1=1);", "fcmr");
        canFollow("fh", "+-*/%(");
        canFollow("fh+", factor);
        canFollow("fh-", factor);
        canFollow("fh*", factor);
        canFollow("fh/", factor);
        canFollow("fh%", factor);
        canFollow("f[", factor);
        canFollow("f[h", "+-*/%]");
        canFollow("f[h]", "+-*/%(");
        canFollow("fh(", factor + "!(");
    }

    private static void lawBeforeStays() {
        edge("5: a FAULT: the one before stays; the tape is empty");
        GhostQuarter q = with(THREE, "m(h=1);r7(1=1)");
        String seven = "m(((((((1=1)))))))";
        String many = times("r1(1=1);", 17);
        String[] texts = {"r1(1=1);m(h=0)x", "r1(1=1);", "r1(1=1);r123456", "r1(1=1);" + seven, many};
        for (String text : texts) {
            due(law(q, text) < -1000, true);
            due(q.count(6), 0);
            due(q.count(5), 2);
            due(q.houseIs(0, 3), 0);
            due(q.houseIs(1, 3), 1);
            due(q.odds(1, 1, 0), 7);
        }
        due(law(q, "m(h=0)"), 1);
        due(q.count(5), 1);
        due(q.odds(1, 1, 0), 0);
        due(q.houseIs(0, 3), 1);
        due(q.houseIs(1, 3), 0);
    }

    private static void fearIs(String sum, int want) {
        GhostQuarter q = with("a7./8./8./8./8./8./8./8.", "f" + sum + "(1=1)");
        q.stranger(0, 1, 0, 999);
        due(q.tried(0, 5), want);
        due(q.dread(0, 1, 0), want);
    }

    private static void lawBoundsOfFear() {
        edge("5: f 0 to 99, beyond its bounds the bound");
        fearIs("0", 0);
        fearIs("0-1", 0);
        fearIs("0-99999", 0);
        fearIs("0-65536*32767-65536", 0);
        fearIs("1", 1);
        fearIs("98", 98);
        fearIs("99", 99);
        fearIs("100", 99);
        fearIs("99999", 99);
        fearIs("65536*32767+65535", 99);
        fearIs("65536*32768", 0);
    }

    private static void payIs(String sum, int want) {
        GhostQuarter q = with("a7./8./8./8./8./8./8./8.", "f1(1=1);c" + sum + "(1=1)");
        q.stranger(0, 1, 0, 1);
        due(q.tried(0, 0), want);
        due(q.tried(0, 1), 1);
        due(q.haunts(0), want);
        due(q.count(1), want);
    }

    private static void lawBoundsOfPay() {
        edge("5: c 0 to 999, beyond its bounds the bound");
        payIs("0", 0);
        payIs("0-1", 0);
        payIs("998", 998);
        payIs("999", 999);
        payIs("1000", 999);
        payIs("99999*2", 999);
        payIs("65536*32768", 0);
    }

    private static void tenthsAre(String sum, int want) {
        GhostQuarter q = with(THREE, "");
        due(law(q, "r" + sum + "(1=1)"), 1);
        due(q.odds(1, 1, 0) * 10, want * q.odds(1, 1, 1));
    }

    private static void lawBoundsOfTenths() {
        edge("5: r 0 to 10, beyond its bounds the bound");
        tenthsAre("0", 0);
        tenthsAre("0-1", 0);
        tenthsAre("1", 1);
        tenthsAre("9", 9);
        tenthsAre("10", 10);
        tenthsAre("11", 10);
        tenthsAre("65536*32767+65535", 10);
        tenthsAre("65536*32768", 0);
    }

    private static void lawFirstThatHolds() {
        edge("5: of the first CLAUSE whose C holds the E; none: 0");
        GhostQuarter q = with(THREE, "r1(1=2);r2(h=0);r3(h<2);r4(1=1)");
        due(q.odds(1, 1, 1), 5);
        due(q.odds(2, 0, 0), 3);
        due(q.odds(4, 0, 0), 2);
        due(q.odds(4, 0, 1), 5);
        law(q, "r9(1=2)");
        due(q.odds(1, 1, 0), 0);
        law(q, "f9(1=1);c9(1=1);m(1=1)");
        due(q.odds(1, 1, 0), 0);
        law(q, "r9(1=1)");
        q.stranger(0, 1, 0, 5);
        due(q.tried(0, 5), 0);
        law(q, "f9(1=2);r9(1=1);c9(1=2)");
        due(q.tried(0, 5), 0);
        law(q, "f9(1=1);c9(1=2)");
        due(q.tried(0, 1), 1);
        due(q.tried(0, 0), 0);
        law(q, "f9(1=1)");
        due(q.tried(0, 1), 1);
        due(q.tried(0, 0), 0);
    }

    private static void lawMayHaunt() {
        edge("5: m: any will do; without an m in THE LAW any HOUSE may");
        GhostQuarter q = with(THREE, "");
        due(q.houseIs(0, 3), 1);
        law(q, "f1(1=2);c1(1=2);r1(1=2)");
        due(q.houseIs(0, 3), 1);
        law(q, "m(h=2);m(h=1);m(1=2)");
        due(q.houseIs(0, 3), 0);
        due(q.houseIs(1, 3), 1);
        due(q.houseIs(2, 3), 1);
        law(q, "m(1=2)");
        due(q.houseIs(0, 3), 0);
        due(q.haunts(0), -2);
    }

    private static void lawNotTold() {
        edge("5: letters where they are not told are 0");
        GhostQuarter q = with("3.b4./3.c4./8./8./8./8./8./8.", "m(h=1&j+g+a+b+k+t+d+w+o=0)");
        due(q.houseIs(1, 3), 1);
        due(law(q, "m(1=1);r10(h=1&j=2&o=1&g+a+b+k+t=0&d+w=0)"), 2);
        due(q.odds(2, 2, 0), 1);
        q.stranger(9, 3, 5, 2);
        due(law(q, "f7(h=1&g=9&a=5&b=0&k=2&t=0&j+o=0&d+w=0)"), 1);
        due(quarter(q, "3.b4./8./8./8./8./8./8./8."), 1);
        due(q.tried(1, 5), 7);
        due(law(q, "f7(1=1);c8(h=1&g=9&k=2&t=0&j+o+a=0&d+w=0)"), 2);
        due(q.tried(1, 0), 8);
        edge("5: d THE NIGHT, w THE NIGHT modulo 7, t the MINUTE");
        due(q.haunts(1), 8);
        q.stranger(9, 3, 5, 2);
        due(law(q, "f7(t=2&d=1&w=1);c8(t=2&d=1&w=1)"), 2);
        walk(q, 1, "2.");
        due(q.tried(1, 0), 8);
        due(q.tried(1, 19), 2);
        due(law(q, "m(d=1&w=1&t=0);r10(d=1)"), 2);
        due(q.houseIs(1, 3), 1);
    }

    private static void condition(String c, boolean want) {
        GhostQuarter q = with(THREE, "");
        due(law(q, "m(" + c + ")"), 1);
        due(q.houseIs(2, 3), want ? 1 : 0);
    }

    private static void lawWrapsAround() {
        edge("5: all is reckoned with 32 bits, as the machine does");
        condition("65536*32767+65535>0", true);
        condition("65536*32767+65535+1<0", true);
        condition("65536*32768=0-65536*32768", true);
        condition("65536*65536=0", true);
        condition("65537*65537=65536*2+1", true);
        // 9999800001 - 2 * 2^32 = 1409865409 = 21512 * 65536 + 54977
        condition("99999*99999=21512*65536+54977", true);
        condition("99999*99999/10000=14098*10+6", true);
        condition("99999*99999%10000=5409", true);
        condition("0-99999*99999=0-[21512*65536+54977]", true);
        condition("0-65536*32768-1=65536*32767+65535", true);
        condition("[65536*32767+65535]-[0-1]<0", true);
        edge("5: through is cut towards 0, what is left has the left one's sign");
        condition("[0-7]/2=0-3", true);
        condition("7/[0-2]=0-3", true);
        condition("[0-7]%2=0-1", true);
        condition("7%[0-2]=1", true);
        condition("[0-1]/2=0", true);
        condition("[0-6]%3=0", true);
    }

    private static void lawSmallestThroughMinusOne() {
        edge("5: the smallest number through -1 is itself, nothing is left");
        condition("65536*32768/[0-1]=65536*32768", true);
        condition("65536*32768%[0-1]=0", true);
        tenthsAre("[65536*32768]/[0-1]+65536*32768+3", 3);
        tenthsAre("[65536*32768]%[0-1]+4", 4);
    }

    private static void lawThroughNothing() {
        edge("5: what is divided by 0 is REFUSED: an E is 0");
        tenthsAre("5/0", 0);
        tenthsAre("5%0", 0);
        tenthsAre("5+1/0", 0);
        tenthsAre("1/0+5", 0);
        tenthsAre("5+[1%[1-1]]", 0);
        tenthsAre("5/h+5", 0);
        tenthsAre("0/0", 0);
        tenthsAre("0*[0%0]+5", 0);
        fearIs("9+1/t", 0);
        payIs("9+1/t", 0);
        // the CLAUSE is still the first that holds
        GhostQuarter q = with(THREE, "r1/0(1=1);r5(1=1)");
        due(q.odds(1, 1, 0), 0);
    }

    private static void lawRefusedCondition() {
        edge("5: then the C as a whole does not hold (through any !, ( ) and |)");
        condition("1/0=0", false);
        condition("1%0=0", false);
        condition("0=1/0", false);
        condition("!1/0=0", false);
        condition("!!1/0=0", false);
        condition("!(1/0=0)", false);
        condition("!(!(1/0=0))", false);
        condition("1/0=0|1=1", false);
        condition("(1/0=0)|1=1", false);
        condition("!(1/0=0)|1=1", false);
        condition("1=1&1/0=0|1=1", false);
        condition("1=1&(1=2|(1/0=0|1=1))", false);
        condition("1=1&!(1=1&!(1/0=0))|1=1", false);
        condition("[1/0]*0=0", false);
        // only that C: the next CLAUSE is asked
        GhostQuarter q = with(THREE, "m(1/0=0);m(h=2)");
        due(q.houseIs(0, 3), 0);
        due(q.houseIs(2, 3), 1);
        law(q, "r1(1/0=0);r7(1=1)");
        due(q.odds(1, 1, 0), 7);
        law(q, "m(1/0=0)");
        due(q.houseIs(0, 3), 0);
        // as often as one likes: nothing is left of it
        law(q, "m(1+2*[3-4*[5/0]]=0);m(h=2)");
        for (int round = 0; round < 80; round++) {
            due(q.houseIs(0, 3), 0);
            due(q.houseIs(2, 3), 1);
        }
    }

    private static void lawAsMuchAsMatters() {
        edge("5: of a C as much is asked, from the left, as matters");
        condition("1=1|1/0=0", true);
        condition("(1=1)|1/0=0", true);
        condition("!1=2|1/0=0", true);
        condition("1=2&1/0=0|1=1", true);
        condition("!(1=2&1/0=0)", true);
        condition("!(1=1|1/0=0)", false);
        condition("!(1=1|1/0=0)|1=1", true);
        condition("1=1&(1=1|1/0=0)", true);
        condition("1=2&1/0=0&1=1|1=1&1=1|1/0=0", true);
        condition("1=2|1=1|1/0=0", true);
        condition("1=2&(1/0=0|1=1)|2=2", true);
        condition("1=2|1=2&1/0=0", false);
        condition("1=2|1/0=0|1=1", false);
    }

    private static void lawWeek() {
        edge("5: w THE NIGHT modulo 7: 6, then 0");
        GhostQuarter q = with(THREE, "");
        for (int night = 0; night <= 15; night++) {
            due(law(q, "m(d=" + night + "&w=" + night % 7 + ")"), 1);
            due(q.houseIs(0, 3), 1);
            due(law(q, "m(d>" + night + "|d<" + night + "|w=" + (night + 1) % 7 + ")"), 1);
            due(q.houseIs(0, 3), 0);
            law(q, "r1(1=1)");
            due(q.haunts(0), 0);
        }
    }
}
