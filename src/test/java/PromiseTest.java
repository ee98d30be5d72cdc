/** Rows of calls for each promise, with the answers that the document asks for. */
public final class PromiseTest extends Rows {
    private static void start(int number) {
        start(number, "");
    }

    private static void start(int number, String part) {
        edge("promise " + number + (part.isEmpty() ? "" : ", " + part));
    }

    public static void main(String[] args) {
        newObject();
        feed();
        quarterText();
        quarterFaults();
        walkText();
        lawText();
        lawValues();
        lawRefused();
        strangers();
        dogs();
        haunts();
        tried();
        strangerIs();
        houseIs();
        meet();
        dread();
        unseen();
        watch();
        feared();
        sightings();
        rotas();
        goes();
        odds();
        watered();
        tax();
        hand();
        ledger();
        seed();
        keepAndUndo();
        check();
        count();
        tell();
    }

    private static void newObject() {
        start(1);
        GhostQuarter q = new GhostQuarter();
        for (int spot = 0; spot < 64; spot++) {
            due(q.count(100 + spot), 0);
        }
        for (int what = 0; what < 7; what++) {
            due(q.count(what), 0);
        }
        due(q.count(7), 1);
        for (int h = 0; h < 10; h++) {
            due(q.houseIs(h, 0), -2);
            due(q.houseIs(h, 1), 0);
            due(q.houseIs(h, 2), 0);
            due(q.houseIs(h, 3), 0);
            due(q.houseIs(h, 4), 0);
            due(q.strangerIs(h, 0), -1);
        }
        due(q.undo(), false);
        due(GhostQuarter.NONE, -1);
        quarter(q, THREE);
        due(q.houseIs(0, 1), 0);
        due(q.tried(0, 4), 0);
        due(q.tried(0, 20), 0);
        due(q.tried(0, 21), -1);
        due(q.houseIs(0, 3), 1);
    }

    private static void feed() {
        start(2);
        GhostQuarter q = new GhostQuarter();
        for (int i = 1; i <= 13; i++) {
            due(q.feed(0x7F010203, -1, 0, 0x80000000, 0), 20 * i);
        }
        due(q.feed(0, 0, 0, 0, 0), -1);
        due(q.count(6), 260);
        due(q.check(1), 0);
        due(q.count(6), 0);
        due(q.feed(0, 1, 2, 3, 4), 20);
        due(q.check(5), 1);
        // the highest byte first
        q.feed(0x6E650000, 0, 0, 0, 0);
        due(q.walk(0, 2), 2);
        q.feed(0x00006E65, 0, 0, 0, 0);
        due(q.walk(0, 2), -1000);
        q.feed('n', 0, 0, 0, 0);
        due(q.walk(0, 4), -1000);
        // what comes later stands behind
        q.feed(0x6E6E6E6E, 0x6E6E6E6E, 0x6E6E6E6E, 0x6E6E6E6E, 0x6E6E6E6E);
        q.feed(0x65657800, 0, 0, 0, 0);
        due(q.walk(0, 22), 22);
    }

    private static void quarterText() {
        start(3);
        GhostQuarter q = new GhostQuarter();
        due(quarter(q, EMPTY), 0);
        due(quarter(q, "a7./.b6./2.c5./3.d4./4.e3./5.f2./6.g./7.h"), 8);
        for (int h = 0; h < 8; h++) {
            due(q.houseIs(h, 0), 9 * h);
            due(q.count(100 + 9 * h), 2 + h);
        }
        due(q.count(101), 0);
        due(quarter(q, "8#/7.#/#7./3#2.3#/..####../i6.j/8./8."), 2);
        due(q.houseIs(0, 0), -2);
        due(q.houseIs(8, 0), 40);
        due(q.houseIs(9, 0), 47);
        due(q.count(4), 768);
        String walls = "1111111100000001100000001110011100111100" + "000000000000000000000000";
        for (int spot = 0; spot < 64; spot++) {
            int want = spot == 40 ? 10 : spot == 47 ? 11 : walls.charAt(spot) - '0';
            if (spot >= 8 && spot < 16) {
                want = spot == 15 ? 1 : 0;
            }
            if (spot >= 16 && spot < 24) {
                want = spot == 16 ? 1 : 0;
            }
            if (spot >= 24 && spot < 32) {
                want = spot == 27 || spot == 28 ? 0 : 1;
            }
            if (spot >= 32 && spot < 40) {
                want = spot >= 34 && spot < 38 ? 1 : 0;
            }
            due(q.count(100 + spot), want);
        }
        // only the first n bytes, the tape is empty then
        tape(q, EMPTY + "zzz");
        due(q.count(6), 40);
        due(q.quarter(23), 0);
        due(q.count(6), 0);
        // all spots one by one: 71 bytes
        due(quarter(q, times("......../", 7) + "........"), 0);
        // strangers on walls are gone, others stay as they are
        due(q.stranger(0, 3, 0, 5), true);
        due(q.stranger(1, 4, 0, 6), true);
        due(quarter(q, "3.#4./8./8./8./8./8./8./8."), 0);
        due(q.count(2), 2);
        due(q.strangerIs(0, 0), -1);
        due(q.strangerIs(1, 2), 6);
        due(quarter(q, EMPTY), 0);
        due(q.count(2), 2);
        due(quarter(q, "4.a3./8./8./8./8./8./8./8."), 1);
        due(q.count(2), 2);
        // no such n, not so many: the tape stays
        GhostQuarter p = new GhostQuarter();
        due(p.quarter(0), -1);
        due(p.quarter(1), -1);
        tape(p, EMPTY);
        due(p.quarter(0), -1);
        due(p.quarter(-1), -1);
        due(p.quarter(41), -1);
        due(p.quarter(Integer.MAX_VALUE), -1);
        due(p.quarter(Integer.MIN_VALUE), -1);
        due(p.count(6), 40);
        due(p.quarter(23), 0);
        tape(p, times("x", 140));
        due(p.quarter(121), -1);
        due(p.count(6), 140);
        due(p.quarter(120), -1000);
        due(p.count(6), 0);
    }

    private static void quarterFaults() {
        start(3, "faults");
        GhostQuarter q = with(THREE, "");
        due(quarter(q, "k7./"), -1000);
        due(quarter(q, "A7./"), -1000);
        due(quarter(q, "1."), -1000);
        due(quarter(q, "9."), -1000);
        due(quarter(q, "0."), -1000);
        due(quarter(q, " 8."), -1000);
        due(quarter(q, "/8."), -1000);
        due(quarter(q, "8"), -1001);
        due(quarter(q, "22."), -1001);
        due(quarter(q, "2a"), -1001);
        due(quarter(q, "2/"), -1001);
        due(quarter(q, "7./"), -1002);
        due(quarter(q, "7."), -1002);
        due(quarter(q, "8."), -1002);
        due(quarter(q, "8./"), -1003);
        due(quarter(q, "8.//"), -1003);
        due(quarter(q, "8./8./8./8./8./8./8."), -1020);
        due(quarter(q, "8./8./8./8./8./8./8./7."), -1023);
        due(quarter(q, EMPTY + "/"), -1023);
        due(quarter(q, EMPTY + " "), -1023);
        due(quarter(q, EMPTY + "b"), -6023);
        due(quarter(q, "8.."), -6002);
        due(quarter(q, "8.2"), -6002);
        due(quarter(q, "8.2a"), -6002);
        due(quarter(q, "7.2#"), -6002);
        due(quarter(q, "7.2x"), -6002);
        due(quarter(q, "6.2x"), -1003);
        due(quarter(q, "8.9"), -1002);
        due(quarter(q, "8.k"), -1002);
        due(quarter(q, "aa"), -7001);
        due(quarter(q, "a7./a"), -7004);
        due(quarter(q, "a6.jj"), -6004);
        due(quarter(q, "a7.a"), -6003);
        due(quarter(q, "abcdefgh/ijab"), -7011);
        due(quarter(q, "a2a"), -1002);
        // the one before stays, the tape is empty
        due(q.count(6), 0);
        due(q.count(4), 7);
        due(q.count(102), 0);
        due(q.houseIs(2, 0), 56);
        due(q.tried(1, 4), 7);
    }

    private static void walkText() {
        start(4);
        GhostQuarter q = with("8./8./8./4.a3./8./8./8./8.", "");
        due(q.houseIs(0, 1), 0);
        due(walk(q, 0, "n"), 1);
        due(q.tried(0, 4), 36);
        due(walk(q, 0, "e"), 1);
        due(q.tried(0, 4), 29);
        due(walk(q, 0, "s"), 1);
        due(q.tried(0, 4), 20);
        due(walk(q, 0, "w"), 1);
        due(q.tried(0, 4), 27);
        due(walk(q, 0, "."), 1);
        due(q.tried(0, 4), 28);
        due(walk(q, 0, "2(n3(e)w)2s"), 12);
        int[] path = {28, 36, 37, 38, 39, 38, 46, 47, 47, 47, 46, 38, 30};
        for (int t = 0; t < path.length; t++) {
            due(q.tried(0, 20 + t), path[t]);
        }
        due(walk(q, 0, "9.9(.)"), 18);
        due(walk(q, 0, "2(2(2(2n)))"), 16);
        due(walk(q, 0, "((n)(e))((s)w)"), 4);
        due(walk(q, 0, "2((2n)3(2(e)))"), 16);
        due(walk(q, 0, "6(9n)6n"), 60);
        due(q.houseIs(0, 1), 60);
        due(walk(q, 0, times("n", 60)), 60);
        due(walk(q, 0, times("n", 61)), -6060);
        due(walk(q, 0, times("n", 59) + "2n"), -6059);
        due(walk(q, 0, "6(9n)7n"), -6005);
        due(walk(q, 0, "6(9n)(7n)"), -6006);
        due(walk(q, 0, "6(9n)2(3n)n"), -6010);
        due(walk(q, 0, "7(9n)"), -6000);
        due(walk(q, 0, "n7(9n)"), -6001);
        due(walk(q, 0, "2(4(8n))"), -6000);
        due(walk(q, 0, "2(2(8n)2(8n))"), -6000);
        due(walk(q, 0, "5n9(9(9n))"), -6004);
        due(walk(q, 0, "6(9n)7"), -1006);
        due(walk(q, 0, "6(9n)(7x"), -1007);
        due(walk(q, 0, "7(9nx"), -1004);
        due(walk(q, 0, "7(9n"), -1004);
        due(walk(q, 0, "((((n"), -5003);
        due(walk(q, 0, "(((2(n))))"), -5004);
        due(walk(q, 0, "n(((n)n)((("), -5010);
        due(walk(q, 0, "n(((n)n)(("), -1010);
        due(walk(q, 0, "((()"), -1003);
        due(walk(q, 0, "()"), -1001);
        due(walk(q, 0, ")"), -1000);
        due(walk(q, 0, "(n)2"), -1004);
        due(walk(q, 0, "(2)"), -1002);
        due(walk(q, 0, "(n"), -1002);
        due(walk(q, 0, "n)"), -1001);
        due(walk(q, 0, "1n"), -1000);
        due(walk(q, 0, "0n"), -1000);
        due(walk(q, 0, "22n"), -1001);
        due(walk(q, 0, "n n"), -1001);
        due(walk(q, 0, "N"), -1000);
        due(walk(q, 0, bytes(238)), -1000);
        due(q.houseIs(0, 1), 60);
        due(q.count(6), 0);
        // any house, the first n bytes, no such ones
        tape(q, "nesw");
        due(q.walk(10, 4), -1);
        due(q.walk(-1, 4), -1);
        due(q.walk(0, 0), -1);
        due(q.walk(0, 21), -1);
        due(q.count(6), 20);
        due(q.walk(9, 3), 3);
        due(q.count(6), 0);
        due(q.houseIs(9, 1), 3);
        tape(q, times(".", 55) + times("(.)", 15));
        due(q.walk(0, 81), -1);
        due(q.count(6), 100);
        due(q.walk(0, 70), 60);
        tape(q, times("2(.)", 15) + times("(.)", 6) + "xx");
        due(q.walk(0, 80), -1078);
        tape(q, times("(.)", 26) + ".." + "x");
        due(q.walk(0, 80), 28);
    }

    private static void lawText() {
        start(5);
        GhostQuarter q = new GhostQuarter();
        due(law(q, "m(1=1)"), 1);
        due(law(q, "f5(h=0);m(w>1);r3(o>2);c[a]*2(!b<k&(t=d|j>g))"), 4);
        due(q.count(5), 4);
        due(law(q, "f12345(99999>1)"), 1);
        due(law(q, "x"), -1000);
        due(law(q, "f"), -1001);
        due(law(q, "f("), -1001);
        due(law(q, "m1(1=1)"), -1001);
        due(law(q, "f-1(1=1)"), -1001);
        due(law(q, "f1 (1=1)"), -1002);
        due(law(q, "f1+(1=1)"), -1003);
        due(law(q, "fx(1=1)"), -1001);
        due(law(q, "fh"), -1002);
        due(law(q, "fhh(1=1)"), -1002);
        due(law(q, "f1h(1=1)"), -1002);
        due(law(q, "f[1(1=1)"), -1003);
        due(law(q, "f[](1=1)"), -1002);
        due(law(q, "f1](1=1)"), -1002);
        due(law(q, "f(1)(1=1)"), -1001);
        due(law(q, "m(1)"), -1003);
        due(law(q, "m()"), -1002);
        due(law(q, "m(1=1"), -1005);
        due(law(q, "m(1=1=1)"), -1005);
        due(law(q, "m(1=1&)"), -1006);
        due(law(q, "m(1=1|)"), -1006);
        due(law(q, "m(1=1&&1=1)"), -1006);
        due(law(q, "m(!)"), -1003);
        due(law(q, "m((1=1)=1)"), -1007);
        due(law(q, "m((1)=1)"), -1004);
        due(law(q, "m([1]=1)"), 1);
        due(law(q, "m([1=1])"), -1004);
        due(law(q, "m(1=1);"), -1007);
        due(law(q, "m(1=1),m(1=1)"), -1006);
        due(law(q, "m(1=1);;"), -1007);
        due(law(q, "m(1=1)m(1=1)"), -1006);
        due(law(q, "f123456(1=1)"), -2006);
        due(law(q, "f000001(1=1)"), -2006);
        due(law(q, "m(1=123456x"), -2009);
        due(law(q, "m(1=12345x"), -1009);
        // open in one another: six are fine
        due(law(q, "f[[[[[[1]]]]]]((((((1=1))))))"), 1);
        due(law(q, "f[[[[[[[1]]]]]]](1=1)"), -5007);
        due(law(q, "m(((((((1=1)))))))"), -5007);
        due(law(q, "m(!!!!!1=1)"), 1);
        due(law(q, "m(!!!!!!1=1)"), -5007);
        due(law(q, "m(!!!!![1]=1)"), -5007);
        due(law(q, "m(!!!!1=[1])"), 1);
        due(law(q, "m(!!!!1=[[1]])"), -5009);
        due(law(q, "m(!!!!1=1&![[[[1]]]]=1)"), 1);
        due(law(q, "m(!!!!1=1&![[[[[1]]]]]=1)"), -5015);
        due(law(q, "m(!(!(!1=1)))"), 1);
        due(law(q, "m(!(!(!(1=1))))"), -5007);
        due(law(q, "m(!(!(!1=1))&!(!(!1=1)))"), 1);
        due(law(q, "m(((((1=[[1]])))))"), -5009);
        due(law(q, "m((((1=[[1]]))))"), 1);
        // a seventh where none can stand
        due(law(q, "m((((((1=(1)"), -1009);
        due(law(q, "f[[[[[[(1)"), -1007);
        // sixteen clauses
        String sixteen = times("m(1=1);", 15) + "m(1=1)";
        due(law(q, sixteen), 16);
        due(q.count(5), 16);
        due(law(q, sixteen + ";m"), -4112);
        due(law(q, sixteen + ";x"), -1112);
        due(law(q, sixteen + ";"), -1112);
        due(law(q, sixteen + "m"), -1111);
        due(q.count(5), 16);
        due(q.count(6), 0);
        // no such n, not so many
        due(q.law(1), -1);
        tape(q, "m(1=1)");
        due(q.law(0), -1);
        due(q.law(21), -1);
        due(q.law(-5), -1);
        due(q.count(6), 20);
        due(q.law(6), 1);
        due(q.count(6), 0);
        tape(q, "m(1=1" + times("+1", 117) + "))");
        due(q.law(241), -1);
        due(q.count(6), 260);
        due(q.law(240), 1);
    }

    /** What THE LAW's E is, by a rumour's tenths (0 to 10): below the line of odds from a, of b. */
    private static void tenths(String sum, int want) {
        GhostQuarter q = with(THREE, "r" + sum + "(1=1)");
        long above = q.odds(1, 1, 0);
        long below = q.odds(1, 1, 1);
        due(above * 10, want * below);
    }

    private static void condition(String c, boolean want) {
        GhostQuarter q = with(THREE, "m(" + c + ")");
        due(q.houseIs(2, 3), want ? 1 : 0);
    }

    private static void lawValues() {
        start(5, "values");
        tenths("3", 3);
        tenths("0", 0);
        tenths("10", 10);
        tenths("11", 10);
        tenths("99999", 10);
        tenths("0-1", 0);
        tenths("9-3-2", 4);
        tenths("9-[3-2]", 8);
        tenths("1+2*3", 7);
        tenths("[1+2]*3", 9);
        tenths("8/3*3", 6);
        tenths("9/2/2", 2);
        tenths("17%10", 7);
        tenths("2*7%5", 4);
        tenths("[0-7]/2+9", 6);
        tenths("[0-7]%4+9", 6);
        tenths("65536*65535*2/65536+5", 3);
        tenths("99999*99999/20000/20000", 3);
        tenths("[65536*32767+65535]/50000/10000", 4);
        tenths("h+5", 5);
        tenths("j", 1);
        tenths("o", 7);
        tenths("g+a+b+k+t+d+w+2", 2);
        condition("h=2", true);
        condition("h=1", false);
        condition("j+g+a+b+k+t+d+w+o=0", true);
        condition("1<2", true);
        condition("2<2", false);
        condition("2>1", true);
        condition("2>2", false);
        condition("2=2", true);
        condition("0-1<0", true);
        condition("65536*32768<0", true);
        condition("1=1&1=2", false);
        condition("1=2|1=1", true);
        condition("1=1|1=1&1=2", true);
        condition("1=2&1=1|1=1", true);
        condition("1=2&(1=1|1=1)", false);
        condition("!1=2", true);
        condition("!1=1", false);
        condition("!!1=1", true);
        condition("!1=2&1=2", false);
        condition("!(1=2&1=2)", true);
        // the first clause that holds; without one 0; of m any one
        GhostQuarter q = with(THREE, "r1(1=2);r2(h=0);r3(1=1)");
        due(q.odds(1, 1, 0), 1);
        due(q.odds(1, 1, 1), 5);
        due(q.odds(2, 0, 0), 3);
        law(q, "r1(h=7)");
        due(q.odds(1, 1, 0), 0);
        due(law(q, "m(h=1);m(h=2)"), 2);
        due(q.houseIs(0, 3), 0);
        due(q.houseIs(1, 3), 1);
        due(q.houseIs(2, 3), 1);
        law(q, "f1(1=1);c1(1=1);r1(1=1)");
        due(q.houseIs(0, 3), 1);
        stages();
    }

    /** The letters in f and c, THE NIGHT and its week. */
    private static void stages() {
        start(5, "letters");
        GhostQuarter q = with("a7./8./8./8./8./8./8./b7.", "f1(1=1)");
        q.stranger(3, 4, 0, 900);
        due(walk(q, 0, "2."), 2);
        String[] sums = {"h", "j", "g", "a", "b", "k/100", "t", "d", "w", "o", "98+t", "0-5", "b+1"};
        int[] growths = {0, 0, 9, 12, 0, 27, 3, 0, 0, 0, 98 + 99 + 99, 0, 7};
        for (int i = 0; i < sums.length; i++) {
            due(law(q, "f" + sums[i] + "(1=1)"), 1);
            due(q.tried(0, 5), growths[i]);
        }
        // what it pays: b is what FEAR has become, a is not told
        q.stranger(3, 4, 0, 20);
        String[] pays = {"h+7", "g", "a", "b", "k", "t", "d", "w", "o", "j", "1000", "0-1"};
        int[] coins = {7, 3, 0, 24, 20, 1, 0, 0, 0, 0, 999, 0};
        for (int i = 0; i < pays.length; i++) {
            due(law(q, "c" + pays[i] + "(1=1);f12(1=1)"), 2);
            due(q.tried(0, 0), coins[i]);
        }
        // THE NIGHT goes on, its week from 0 to 6
        law(q, "f10*d+w(1=1)");
        due(walk(q, 0, "."), 1);
        for (int d = 0; d < 9; d++) {
            q.stranger(3, 4, 0, 999);
            due(q.tried(0, 5), 2 * Math.min(99, 10 * d + d % 7));
            due(q.haunts(1), 0);
        }
        due(q.count(0), 9);
        law(q, "m(w=2&d=9)");
        due(q.houseIs(0, 3), 1);
        law(q, "m(w=3|d=8)");
        due(q.houseIs(0, 3), 0);
    }

    private static void lawRefused() {
        start(5, "a division by 0");
        condition("1/0=1", false);
        condition("!1/0=1", false);
        condition("!(1%0=1)", false);
        condition("1/0=1|1=1", false);
        condition("1=1|1/0=1", true);
        condition("1=2&1/0=1|1=1", true);
        condition("1=1&1/0=1|1=1", false);
        condition("(1=2|!(1/0=1))|1=1", false);
        condition("!(1=1|1/0=1)", false);
        condition("!(1=2&1/0=1)", true);
        condition("0=[0-65536*32768]/[0-1]+65536*32768", true);
        tenths("1/0", 0);
        tenths("5+1/0", 0);
        tenths("5+[1/0]", 0);
        tenths("5+0*[3%0]", 0);
        tenths("5+3/[1+1]", 6);
        // a clause whose C is refused is not the one; an E that is refused is
        GhostQuarter q = with(THREE, "r1(1/0=0);r2/0(1=1);r3(1=1)");
        due(q.odds(1, 1, 0), 0);
        law(q, "r1(1/0=0);r3(1=1)");
        due(q.odds(1, 1, 0), 3);
        law(q, "m(1/h=1);m(h=0)");
        due(q.houseIs(0, 3), 1);
        due(q.houseIs(1, 3), 1);
        due(q.houseIs(2, 3), 0);
    }

    private static void strangers() {
        start(6);
        GhostQuarter q = with("a3.#3./8./8./8./8./8./8./8.", "f50(1=1)");
        due(q.stranger(0, 0, 0, 1), true);
        due(q.stranger(9, 7, 7, 999), true);
        due(q.strangerIs(9, 0), 63);
        due(q.strangerIs(9, 2), 999);
        due(q.strangerIs(0, 0), 0);
        due(q.stranger(10, 0, 0, 1), false);
        due(q.stranger(-1, 0, 0, 1), false);
        due(q.stranger(1, 8, 0, 1), false);
        due(q.stranger(1, -1, 0, 1), false);
        due(q.stranger(1, 0, 8, 1), false);
        due(q.stranger(1, 0, -1, 1), false);
        due(q.stranger(1, 0, 0, 0), false);
        due(q.stranger(1, 0, 0, 1000), false);
        due(q.stranger(1, 4, 0, 5), false);
        due(q.stranger(1, 3, 0, 5), true);
        due(q.count(2), 515);
        due(q.haunts(0), 0);
        due(q.strangerIs(0, 3), 1);
        due(q.strangerIs(1, 3), 1);
        // told again: no FEAR, not paid
        due(q.stranger(1, 2, 5, 60), true);
        due(q.strangerIs(1, 0), 42);
        due(q.strangerIs(1, 1), 0);
        due(q.strangerIs(1, 2), 60);
        due(q.strangerIs(1, 3), 0);
        // refused: the one before stays
        due(q.stranger(1, 4, 0, 5), false);
        due(q.strangerIs(1, 0), 42);
    }

    private static void dogs() {
        start(7);
        GhostQuarter q = with("ab6./8./8./8./8./8./8./8.", "");
        due(q.dog(10, true), false);
        due(q.dog(-1, true), false);
        due(q.dog(5, true), true);
        due(q.houseIs(5, 2), 1);
        due(q.dog(1, false), true);
        due(q.houseIs(1, 2), 0);
        due(q.dog(1, true), true);
        due(q.tried(0, 2), 1);
        due(q.dog(1, false), true);
        due(q.tried(0, 2), 0);
        start(8);
        due(q.tells(1), false);
        due(q.dog(1, true), true);
        due(q.tells(1), true);
        due(q.houseIs(1, 2), 2);
        due(q.tried(0, 2), 0);
        due(q.tells(1), false);
        due(q.tells(10), false);
        due(q.tells(-1), false);
        due(q.tells(0), false);
        due(q.tells(5), true);
        start(7, "told again");
        due(q.dog(1, true), true);
        due(q.houseIs(1, 2), 1);
        due(q.tells(1), true);
        due(q.dog(1, false), true);
        due(q.tells(1), false);
        due(q.dog(1, true), true);
        due(q.houseIs(1, 2), 1);
    }

    private static void haunts() {
        start(9);
        GhostQuarter q = with("a4.b2./8./8./8./8./8./8./c7.", "m(h=0&d<3|h=2);f10(a<9);c5+g(1=1)");
        due(q.haunts(3), -1);
        due(q.haunts(10), -1);
        due(q.haunts(-1), -1);
        due(q.haunts(1), -2);
        due(q.count(0), 0);
        walk(q, 0, "3e");
        // 0 in the row, 1 behind b, 2 in column 2, 3 on the ghost's own spot
        q.stranger(0, 4, 0, 30);
        q.stranger(1, 6, 0, 1);
        q.stranger(2, 2, 4, 11);
        q.stranger(3, 0, 0, 40);
        due(q.tried(0, 0), 13);
        due(q.haunts(0), 13);
        due(q.count(0), 1);
        due(q.count(1), 13);
        due(q.count(3), 9);
        due(q.strangerIs(0, 1), 30);
        due(q.strangerIs(1, 1), 0);
        due(q.strangerIs(2, 1), 10);
        due(q.strangerIs(3, 1), 40);
        due(q.haunts(0), 7);
        due(q.strangerIs(0, 1), 30);
        due(q.strangerIs(2, 1), 20);
        due(q.count(1), 20);
        due(q.count(3), 13);
        due(q.haunts(0), 0);
        due(q.haunts(0), -2);
        due(q.count(0), 3);
        due(q.haunts(2), 0);
        due(q.count(0), 4);
        mostFear();
    }

    private static void mostFear() {
        start(9, "the most FEAR");
        GhostQuarter q = with("a7./8./8./8./8./8./8./8.", "f98(1=1);c9(1=1)");
        q.stranger(0, 1, 0, 999);
        walk(q, 0, "9.");
        due(q.haunts(0), 0);
        due(q.strangerIs(0, 1), 980);
        due(q.tried(0, 5), 19);
        due(q.tried(0, 10), 0);
        due(q.feared(0, 1), 19);
        due(q.haunts(0), 9);
        due(q.strangerIs(0, 1), 999);
        due(q.strangerIs(0, 3), 1);
        due(q.haunts(0), 0);
        // at its COURAGE it pays, below it does not
        q.stranger(1, 2, 0, 98);
        due(q.tried(0, 11), 0);
        q.stranger(1, 2, 0, 99);
        due(q.tried(0, 11), 1);
        // walls and the edge stop the ghost, a house does not
        GhostQuarter p = with(".a#b4./8./8./8./8./8./8./8.", "");
        walk(p, 0, "s2e3w2e");
        int[] path = {1, 1, 1, 1, 0, 0, 0, 1, 1};
        for (int t = 0; t < path.length; t++) {
            due(p.tried(0, 20 + t), path[t]);
        }
        walk(p, 1, "ne2.2s2e2w2nw2s");
        int[] other = {3, 11, 12, 12, 12, 4, 4, 5, 6, 5, 4, 12, 20, 19, 11, 3};
        for (int t = 0; t < other.length; t++) {
            due(p.tried(1, 20 + t), other[t]);
        }
    }

    private static void tried() {
        start(10);
        GhostQuarter q = with("a3.b3./8./2.c5./8./8./8./8./8.", "m(1=2);f4+g(1=1);c1+t(1=1)");
        walk(q, 0, "2e3n");
        // path 0 1 2 10 18 26: 18 is c
        q.stranger(0, 7, 0, 4);
        q.stranger(1, 3, 0, 14);
        q.stranger(2, 2, 7, 500);
        q.stranger(4, 7, 1, 9);
        q.dog(0, true);
        q.dog(1, true);
        q.dog(2, true);
        q.dog(9, true);
        due(q.tried(0, 0), 3);
        due(q.tried(0, 1), 2);
        due(q.tried(0, 2), 3);
        due(q.tried(0, 3), 6);
        due(q.tried(0, 4), 26);
        due(q.tried(0, 5), 15 + 12 + 8);
        due(q.tried(0, 10), -2);
        due(q.tried(0, 11), 2);
        due(q.tried(0, 12), -2);
        due(q.tried(0, 13), -1);
        due(q.tried(0, 14), -2);
        int[] path = {0, 1, 2, 10, 18, 26};
        for (int t = 0; t < 6; t++) {
            due(q.tried(0, 20 + t), path[t]);
        }
        due(q.tried(0, 26), -1);
        due(q.tried(0, 80), -1);
        due(q.tried(0, 6), -1);
        due(q.tried(0, 9), -1);
        due(q.tried(0, -1), -1);
        due(q.tried(0, Integer.MAX_VALUE), -1);
        due(q.tried(0, Integer.MIN_VALUE), -1);
        due(q.tried(3, 0), -1);
        due(q.tried(10, 0), -1);
        due(q.tried(-1, 0), -1);
        // nothing is changed
        due(q.count(0), 0);
        due(q.count(1), 0);
        due(q.strangerIs(1, 1), 0);
        due(q.count(3), 0);
        q.tells(2);
        due(q.tried(0, 2), 0);
        due(q.tried(2, 2), 0);
        walk(q, 0, "3e");
        due(q.tried(0, 2), 1);
        due(q.tried(0, 3), 3);
        walk(q, 0, "6(9.)6.");
        due(q.tried(0, 80), 0);
        due(q.tried(0, 81), -1);
        law(q, "c1(1=1)");
        due(q.tried(0, 3), 61);
        due(q.tried(0, 5), 0);
        due(q.tried(0, 1), 0);
        law(q, "f99(1=1);c999(1=1)");
        due(q.tried(0, 0), 999);
        due(q.tried(0, 5), 99);
        due(q.haunts(0), 999);
        due(q.tried(0, 3), 0);
        due(q.tried(0, 11), -2);
    }

    private static void strangerIs() {
        start(11);
        GhostQuarter q = with("a3.b2.c/8./8./8./d7./8./8./4.e3.", "f7(1=1)");
        due(q.strangerIs(0, 0), -1);
        q.stranger(0, 4, 0, 7);
        q.stranger(1, 0, 2, 50);
        due(q.strangerIs(0, 0), 4);
        due(q.strangerIs(0, 1), 0);
        due(q.strangerIs(0, 2), 7);
        due(q.strangerIs(0, 3), 0);
        due(q.strangerIs(0, 4), 1 + 2 + 4 + 16);
        due(q.strangerIs(0, 5), -1);
        due(q.strangerIs(0, -1), -1);
        due(q.strangerIs(1, 4), 1 + 8);
        due(q.strangerIs(10, 0), -1);
        due(q.strangerIs(-1, 0), -1);
        due(q.haunts(0), 0);
        due(q.strangerIs(0, 1), 7);
        due(q.strangerIs(0, 3), 1);
        due(q.strangerIs(0, 4), 0);
        due(q.strangerIs(1, 1), 7);
        due(q.strangerIs(1, 3), 0);
        quarter(q, "a#2.b2.c/8./#7./8./d7./8./8./8.");
        q.stranger(1, 0, 3, 50);
        due(q.strangerIs(1, 4), 8);
        q.stranger(1, 2, 0, 50);
        due(q.strangerIs(1, 4), 2);
        q.stranger(1, 6, 6, 50);
        due(q.strangerIs(1, 4), 0);
    }

    private static void houseIs() {
        start(12);
        GhostQuarter q = with("3.a4./8./8./8./8./8./8./7.j", "m(h=0&d=0)");
        due(q.houseIs(0, 0), 3);
        due(q.houseIs(9, 0), 63);
        due(q.houseIs(1, 0), -2);
        due(q.houseIs(10, 0), -1);
        due(q.houseIs(-1, 0), -1);
        due(q.houseIs(0, 5), -1);
        due(q.houseIs(0, -1), -1);
        due(walk(q, 1, "5n"), 5);
        due(q.houseIs(1, 1), 5);
        due(q.houseIs(0, 3), 1);
        due(q.houseIs(9, 3), 0);
        law(q, "r1(1=1)");
        due(q.houseIs(1, 3), 0);
        due(q.houseIs(9, 3), 1);
        q.hand(1, 200);
        due(q.houseIs(1, 4), 200);
        due(q.houseIs(1, 2), 0);
        q.dog(1, true);
        due(q.houseIs(1, 2), 1);
        q.tells(1);
        due(q.houseIs(1, 2), 2);
    }

    private static void meet() {
        start(13);
        GhostQuarter q = with("a3.b3./8./8./8./8./8./8./c7.", "m(1=2)");
        due(q.meet(0, 1, 0), -2);
        due(q.meet(0, 0, 0), -1);
        due(q.meet(0, 3, 0), -1);
        due(q.meet(3, 0, 0), -1);
        due(q.meet(0, 10, 0), -1);
        due(q.meet(-1, 0, 0), -1);
        due(q.meet(0, 1, 3), -1);
        due(q.meet(0, 1, -1), -1);
        // on one spot
        walk(q, 0, "2e");
        walk(q, 1, "2w");
        due(q.meet(0, 1, 0), 2);
        due(q.meet(0, 1, 1), 2);
        due(q.meet(0, 1, 2), 2);
        // places changed
        walk(q, 0, "2e");
        walk(q, 1, "3w");
        due(q.meet(0, 1, 0), 2);
        walk(q, 1, "w.w");
        due(q.meet(0, 1, 0), 3);
        walk(q, 0, "3e");
        walk(q, 1, ".3w");
        due(q.meet(0, 1, 0), 3);
        due(q.meet(0, 1, 1), 3);
        due(q.meet(0, 1, 2), 2);
        due(q.meet(1, 0, 1), 2);
        due(q.meet(1, 0, 2), 3);
        // one is over and stays
        walk(q, 0, "e");
        walk(q, 1, "5.3w");
        due(q.meet(0, 1, 0), 8);
        due(q.meet(0, 1, 1), 1);
        walk(q, 1, "5.2w");
        due(q.meet(0, 1, 0), -2);
        due(q.meet(0, 1, 1), -2);
        due(q.meet(0, 1, 2), -2);
        // one behind the other is no change of places
        walk(q, 0, "9e");
        walk(q, 1, "9e");
        due(q.meet(0, 1, 0), 7);
        walk(q, 2, "9.");
        due(q.meet(0, 2, 0), -2);
    }

    private static void dread() {
        start(14);
        GhostQuarter q = with("a7./8./8./8./8./8./8./8.", "f9-a(1=1)");
        due(q.dread(0, 0, 0), -1);
        due(q.dread(0, 41, 0), -1);
        due(q.dread(1, 1, 0), -1);
        due(q.dread(10, 1, 0), -1);
        due(q.dread(0, 1, 2), -1);
        due(q.dread(0, 1, -1), -1);
        due(q.dread(0, 40, 0), 0);
        due(q.dread(0, 40, 1), 0);
        q.stranger(0, 3, 0, 1);
        due(q.dread(0, 1, 0), 6);
        due(q.dread(0, 1, 1), 0);
        due(q.dread(0, 2, 0), 13);
        due(q.dread(0, 2, 1), 1);
        due(q.dread(0, 4, 0), 30);
        due(q.dread(0, 5, 0), 39);
        due(q.dread(0, 5, 1), 3);
        due(q.dread(0, 40, 0), 30 + 36 * 9);
        // the MINUTE, THE NIGHT, the house, what FEAR it has
        law(q, "f5(t=2&h=0);f1(d=1);f30+b(d=2)");
        due(q.dread(0, 3, 0), 5);
        due(q.dread(0, 3, 1), 0);
        due(q.dread(0, 40, 0), 5);
        q.haunts(0);
        due(q.dread(0, 4, 0), 1 + 1 + 5 + 1);
        q.haunts(0);
        due(q.strangerIs(0, 3), 1);
        due(q.dread(0, 4, 0), 0);
        due(q.dread(0, 4, 1), 0);
        q.stranger(0, 3, 0, 999);
        q.stranger(1, 0, 7, 999);
        due(q.dread(0, 1, 0), 60);
        q.haunts(0);
        law(q, "f30+b(d=3)");
        due(q.dread(0, 1, 0), 120);
        due(q.dread(0, 2, 0), 240);
        due(q.dread(0, 3, 0), 360);
        law(q, "f98+b(1=1)");
        due(q.dread(0, 3, 0), 6 * 99);
        // walls: no way to what frightens
        quarter(q, "a#6./##6./8./8./8./8./8./8.");
        q.stranger(0, 3, 0, 999);
        due(q.dread(0, 40, 0), 0);
        due(q.dread(0, 40, 1), 0);
        // the lowest end of like ones
        quarter(q, "8./8./8./8./4.a3./8./8./8.");
        law(q, "f1(t<1)");
        q.stranger(0, 4, 0, 9);
        due(q.dread(0, 3, 0), 1);
        due(q.dread(0, 3, 1), 20);
        due(q.dread(0, 40, 1), 0);
    }

    private static void unseen() {
        start(15);
        GhostQuarter q = with("a7./8./8./8./8./8./8./3.#.##b", "");
        due(q.unseen(0, 0, 0), 0);
        due(q.unseen(0, 0, 1), 0);
        due(q.unseen(0, 63, 0), 0);
        due(q.unseen(0, 63, 1), 14);
        due(q.unseen(0, 59, 0), -2);
        due(q.unseen(0, 59, 1), -2);
        due(q.unseen(0, 64, 0), -1);
        due(q.unseen(0, -1, 0), -1);
        due(q.unseen(2, 0, 0), -1);
        due(q.unseen(10, 0, 0), -1);
        due(q.unseen(0, 0, 2), -1);
        due(q.unseen(0, 0, -1), -1);
        q.stranger(0, 4, 0, 1);
        due(q.unseen(0, 0, 0), 1);
        due(q.unseen(0, 3, 0), 2);
        due(q.unseen(0, 3, 1), 5);
        due(q.unseen(0, 1, 0), 2);
        due(q.unseen(0, 1, 1), 1);
        q.stranger(1, 4, 0, 1);
        due(q.unseen(0, 4, 0), 6);
        due(q.unseen(0, 4, 1), 6);
        due(q.unseen(0, 60, 0), 6);
        due(q.unseen(0, 60, 1), 11);
        due(q.unseen(0, 63, 0), 4);
        // paid ones don't look
        law(q, "f1(1=1)");
        q.haunts(0);
        due(q.count(3), 3);
        due(q.unseen(0, 3, 0), 0);
        due(q.unseen(0, 3, 1), 3);
        // houses can be walked through, walls can't
        quarter(q, "ab6./###5./8./8./8./8./8./8.");
        due(q.unseen(0, 2, 1), 2);
        quarter(q, "a#6./#b6./8./8./8./8./8./8.");
        due(q.unseen(0, 9, 0), -2);
        due(q.unseen(0, 1, 0), -2);
    }

    private static void watch() {
        start(16);
        GhostQuarter q = new GhostQuarter();
        due(q.watch(0), 0);
        due(q.watch(1), 0);
        due(q.watch(2), -1);
        due(q.watch(-1), -1);
        quarter(q, "a7./8./8./8./8./8./8./8.");
        due(q.watch(0), 1);
        due(q.watch(1), 1);
        walk(q, 0, "n2e");
        due(q.watch(0), 8);
        due(q.watch(1), 4);
        quarter(q, "a6.b/8./8./8./8./8./8./8.");
        walk(q, 0, "2.");
        walk(q, 1, "4.");
        due(q.watch(0), 1);
        due(q.watch(1), 8);
        quarter(q, "a#5.b/8./8./8./8./8./8./8.");
        due(q.watch(0), 2);
        due(q.watch(1), 5);
        quarter(q, "a7#/8#/8#/8#/8#/8#/8#/8#");
        due(q.watch(0), -2);
        due(q.watch(1), -2);
        due(q.watch(2), -1);
        // a lane on which the ghost is
        quarter(q, "a6#./7#./8#/8#/8#/8#/8#/8#");
        due(q.watch(0), 7);
        due(q.watch(1), 0);
    }

    private static void feared() {
        start(17);
        GhostQuarter q = with("a6.b/8./8./8./8./8./8./c7.", "f5+h*h(1=1);m(1=2)");
        q.stranger(4, 3, 0, 100);
        due(q.feared(4, 0), 1);
        due(q.feared(4, 1), 6);
        due(q.feared(4, 2), -1);
        due(q.feared(4, -1), -1);
        due(q.feared(3, 0), -1);
        due(q.feared(10, 0), -1);
        due(q.feared(-1, 0), -1);
        walk(q, 0, ".");
        due(q.feared(4, 0), 0);
        due(q.feared(4, 1), 10);
        // it is gone when it has paid
        q.stranger(4, 3, 0, 5);
        due(q.feared(4, 0), 1);
        due(q.feared(4, 1), 6);
        law(q, "f5(1=1)");
        due(q.feared(4, 0), 0);
        due(q.feared(4, 1), 5);
        law(q, "c5(1=1)");
        due(q.feared(4, 0), -2);
        due(q.feared(4, 1), 0);
        due(q.count(0), 0);
        due(q.strangerIs(4, 1), 0);
        q.stranger(4, 3, 3, 5);
        law(q, "f5(1=1)");
        due(q.feared(4, 0), -2);
    }

    private static int sightings(GhostQuarter q, int what, int... bytes) {
        tape(q, bytes(bytes));
        return q.sightings(bytes.length / 2, what);
    }

    private static void sightings() {
        start(18);
        GhostQuarter q = with("a#5.b/.#6./8./8./8./8./8./7.c", "");
        due(sightings(q, 0, 0, 7), 1);
        due(sightings(q, 1, 0, 7), 2);
        due(sightings(q, 1, 7, 56), 5);
        due(sightings(q, 1, 6, 56), 0);
        due(sightings(q, 1, 255, 56), 7);
        due(sightings(q, 1, 6, 2), 3);
        due(sightings(q, 1, 5, 2), 2);
        due(sightings(q, 1, 4, 2), 0);
        // 0 to 2 is six STEPS, round the wall
        due(sightings(q, 0, 3, 0, 8, 2), 2);
        due(sightings(q, 0, 3, 0, 9, 2), 1);
        due(sightings(q, 1, 3, 0, 8, 2), 0);
        due(sightings(q, 1, 3, 0, 9, 2), 1);
        // one MINUTE: one spot, or two ghosts
        due(sightings(q, 0, 9, 2, 9, 2), 1);
        due(sightings(q, 0, 9, 2, 9, 3), 2);
        due(sightings(q, 1, 9, 2, 9, 3), 0);
        // two ghosts that pass each other
        due(sightings(q, 0, 0, 2, 0, 7, 5, 7, 5, 2), 2);
        due(sightings(q, 0, 0, 2, 0, 7, 1, 16, 9, 7, 9, 2), 3);
        due(sightings(q, 0, 0, 2, 1, 3, 1, 10, 2, 4, 2, 11), 2);
        int[] ten = new int[20];
        for (int i = 0; i < 10; i++) {
            ten[2 * i] = 3;
            ten[2 * i + 1] = 8 * (i % 5) + 3;
        }
        due(sightings(q, 0, ten), 5);
        // no such ones
        due(sightings(q, 0, 0, 1), -2);
        due(q.count(6), 0);
        due(sightings(q, 0, 0, 64), -2);
        due(sightings(q, 0, 0, 255), -2);
        due(sightings(q, 0, 5, 2, 4, 2), -2);
        due(sightings(q, 1, 5, 2, 4, 2), -2);
        due(sightings(q, 0, 5, 2, 6, 2, 6, 9), -2);
        due(sightings(q, 0, 128, 2, 129, 2), 1);
        tape(q, bytes(0, 2));
        due(q.sightings(0, 0), -1);
        due(q.sightings(11, 0), -1);
        due(q.sightings(1, 2), -1);
        due(q.sightings(1, -1), -1);
        due(q.count(6), 20);
        due(q.sightings(10, 0), 2);
        due(q.sightings(1, 0), -1);
        tape(q, bytes(0, 2));
        due(q.sightings(1, 0), 1);
        due(q.count(6), 0);
    }

    private static void rotas() {
        start(19);
        GhostQuarter q = with("abcdef2./8./8./8./8./8./8./8.", "");
        due(q.rotas(1, 1, 1, 100), 1);
        due(q.rotas(1, 1, 1, 101), 0);
        due(q.rotas(1, 1, 1, 0), 0);
        due(q.rotas(2, 1, 3, 100), 0);
        due(q.rotas(2, 1, 3, 101), -2);
        due(q.rotas(2, 1, 3, 0), -2);
        due(q.rotas(3, 6, 2, 100), 2);
        due(q.rotas(3, 6, 2, 0), 1);
        due(q.rotas(3, 6, 2, 1), 2);
        due(q.rotas(3, 6, 2, 2), 1);
        due(q.rotas(3, 6, 2, 101), 1);
        due(q.rotas(2, 7, 3, 100), 6);
        due(q.rotas(2, 7, 3, 101), 1);
        due(q.rotas(3, 7, 3, 100), 12);
        due(q.rotas(3, 7, 3, 101), 0);
        due(q.rotas(3, 7, 3, 2), 0);
        due(q.rotas(3, 7, 1, 2), 2);
        due(q.rotas(3, 7, 1, 100), 6);
        due(q.rotas(4, 7, 1, 100), 0);
        due(q.rotas(14, 31, 3, 100), 22578000);
        due(q.rotas(14, 31, 3, 101), 1);
        due(q.rotas(14, 31, 2, 100), 0);
        due(q.rotas(10, 62, 2, 100), 39480);
        int[] row = {0, 1, 0, 1, 0, 1, 2, 3, 2, 3, 2, 3, 4, -9};
        for (int night = 0; night < 13; night++) {
            due(q.rotas(13, 31, 3, night), row[night]);
        }
        due(q.rotas(13, 31, 3, 13), -1);
        due(q.rotas(2, 63, 3, 100), -1);
        due(q.rotas(2, 0, 3, 100), -1);
        due(q.rotas(2, 64, 3, 100), -1);
        due(q.rotas(2, 65, 3, 100), -1);
        due(q.rotas(2, 1025, 3, 100), -1);
        due(q.rotas(2, -1, 3, 100), -1);
        due(q.rotas(0, 1, 3, 100), -1);
        due(q.rotas(15, 1, 3, 100), -1);
        due(q.rotas(2, 1, 0, 100), -1);
        due(q.rotas(2, 1, 4, 100), -1);
        due(q.rotas(2, 3, 1, 2), -1);
        due(q.rotas(2, 3, 1, -1), -1);
        due(q.rotas(2, 3, 1, 99), -1);
        due(q.rotas(2, 3, 1, 102), -1);
        // m of each NIGHT, from THE NIGHT on
        law(q, "m(d%3=h)");
        due(q.rotas(3, 7, 3, 100), 1);
        due(q.rotas(3, 7, 3, 0), 0);
        due(q.rotas(3, 7, 3, 1), 1);
        due(q.rotas(3, 7, 3, 2), 2);
        due(q.haunts(0), 0);
        due(q.rotas(3, 7, 3, 0), 1);
        due(q.rotas(3, 7, 3, 2), 0);
        due(q.rotas(2, 3, 3, 100), 0);
        law(q, "m(w=1|w=6|h=2)");
        due(q.rotas(6, 7, 3, 100), 0);
        due(q.rotas(3, 7, 3, 100), 0);
        due(q.rotas(2, 7, 3, 100), 2);
    }

    private static void goes() {
        start(20);
        GhostQuarter q = with("abc5./8./8./8./8./8./8./8.", "r10(1=1)");
        due(q.goes(1, 1), 7);
        due(q.goes(0, 20), 0);
        due(q.goes(7, 20), 7);
        due(q.goes(8, 1), 0);
        due(q.goes(1023, 1), 7);
        due(q.goes(1024, 1), -1);
        due(q.goes(-1, 1), -1);
        due(q.goes(1, 0), -1);
        due(q.goes(1, 21), -1);
        q.seed(1);
        law(q, "r0(1=1)");
        due(q.goes(1, 1), 1);
        // two draws: 39022, then (25173 * 39022 + 13849) % 65536 = 61087
        due(q.count(7), 61087);
        q.seed(1);
        law(q, "r3(1=1)");
        // 39022 % 10 = 2 is below 3: b hears it; 7 is not
        due(q.goes(1, 1), 3);
        q.seed(1);
        law(q, "r2(1=1)");
        due(q.goes(1, 1), 1);
        q.seed(1);
        law(q, "r8(j=2)");
        due(q.goes(1, 1), 5);
        // who hears it today tells it tomorrow, and is told by each one today
        q.seed(1);
        law(q, "r10(j=h+1)");
        due(q.goes(1, 1), 3);
        due(q.goes(1, 2), 7);
        q.seed(1);
        law(q, "r10(1=1)");
        due(q.goes(3, 1), 7);
        due(q.count(7), 61087);
        law(q, "r10*d(1=1)");
        due(q.goes(1, 20), 1);
        due(q.count(0), 0);
        q.haunts(0);
        due(q.goes(1, 1), 7);
        law(q, "r10(o>1)");
        due(q.goes(1, 1), 5);
        due(q.goes(2, 5), 2);
        due(q.goes(4, 1), 5);
    }

    private static void odds() {
        start(21);
        GhostQuarter q = with("abc5./8./8./8./8./8./8./8.", "r5(1=1)");
        due(q.odds(1, 1, 0), 1);
        due(q.odds(1, 1, 1), 2);
        due(q.odds(5, 1, 0), 3);
        due(q.odds(5, 1, 1), 4);
        due(q.odds(0, 1, 0), 0);
        due(q.odds(0, 1, 1), 1);
        due(q.odds(2, 1, 0), -1);
        due(q.odds(1, 3, 0), -1);
        due(q.odds(1, 10, 0), -1);
        due(q.odds(1, -1, 0), -1);
        due(q.odds(1, 1, 2), -1);
        due(q.odds(1, 1, -1), -1);
        due(q.odds(1024, 1, 0), -1);
        due(q.odds(-1, 1, 0), -1);
        due(q.odds(1021, 1, 1), 4);
        law(q, "r3(h=0);r7(h=2)");
        due(q.odds(5, 1, 0), 79);
        due(q.odds(5, 1, 1), 100);
        law(q, "r10(h=0);r7(h=2)");
        due(q.odds(5, 1, 0), 1);
        due(q.odds(5, 1, 1), 1);
        law(q, "r0(1=1)");
        due(q.odds(5, 1, 0), 0);
        due(q.odds(5, 1, 1), 1);
        due(q.count(7), 1);
        due(quarter(q, "abcdefgh/ij6./8./8./8./8./8./8."), 10);
        law(q, "r1(1=1)");
        due(q.odds(511, 9, 1), 1000000000);
        due(q.odds(511, 9, 0), 1000000000 - 387420489);
        law(q, "r9(1=1)");
        due(q.odds(1023 - 16, 4, 0), 999999999);
    }

    private static void watered() {
        start(22);
        GhostQuarter q = with("abc5./8./8./8./8./8./8./8.", "r5(1=1)");
        due(q.watered(0), 0);
        due(q.watered(1), 1);
        due(q.watered(3), 2);
        due(q.watered(7), -2);
        due(q.watered(1023), -2);
        due(q.watered(1024), -1);
        due(q.watered(-1), -1);
        law(q, "r2*h(1=1)");
        due(q.watered(0), 2);
        due(q.watered(4), 1);
        // to tell one that would hear it anyway is no use
        law(q, "r9(h=0&j=1);r5(h=1&j=2);r4(h=2&j=1)");
        due(q.watered(0), 0);
        due(q.watered(1), 2);
        due(new GhostQuarter().watered(0), -2);
        due(new GhostQuarter().watered(5), -2);
        due(q.count(7), 1);
    }

    private static int tax(GhostQuarter q, int h, int... nights) {
        tape(q, bytes(nights));
        return q.tax(h);
    }

    private static void tax() {
        start(23);
        GhostQuarter q = with("a7./8./8./8./8./8./8./8.", "f9(1=1);c100(1=1)");
        due(tax(q, 0, 1), 0);
        q.stranger(0, 1, 0, 1);
        due(q.haunts(0), 100);
        due(tax(q, 0, 1, 1, 1), 34);
        due(tax(q, 1, 1, 1, 1), 33);
        due(tax(q, 2, 1, 1, 1), 33);
        due(tax(q, 3, 1, 1, 1), 0);
        due(tax(q, 9, 0, 0, 0, 0, 0, 0, 0, 0, 0, 99), 100);
        // rests 4, 5, 5 of 7: the one coin left over of 100 * 1, 3, 3 goes to the greatest rest
        due(tax(q, 0, 1, 3, 3), 14);
        due(tax(q, 1, 1, 3, 3), 43);
        due(tax(q, 2, 1, 3, 3), 43);
        due(tax(q, 0, 6, 6, 1, 6, 6, 6, 6), 17);
        due(tax(q, 1, 6, 6, 1, 6, 6, 6, 6), 16);
        due(tax(q, 2, 6, 6, 1, 6, 6, 6, 6), 3);
        due(tax(q, 5, 6, 6, 1, 6, 6, 6, 6), 16);
        due(tax(q, 6, 6, 6, 1, 6, 6, 6, 6), 16);
        due(tax(q, 0, 100), -2);
        due(q.count(6), 0);
        due(tax(q, 0, 1, 0, 0, 0, 0, 0, 0, 0, 0, 100), -2);
        due(tax(q, 0, 1, 0, 0, 0, 0, 0, 0, 0, 0, 99), 1);
        due(tax(q, 0, 0), -2);
        due(q.count(6), 0);
        due(tax(q, 0, 1, 0, 0, 0, 0, 0, 0, 0, 0, 0, 200), 100);
        due(q.tax(0), -1);
        tape(q, bytes(1));
        due(q.tax(10), -1);
        due(q.tax(-1), -1);
        due(q.count(6), 20);
        due(q.tax(0), 100);
        due(q.count(1), 100);
    }

    private static void hand() {
        start(24);
        GhostQuarter q = new GhostQuarter();
        due(q.hand(0, 255), true);
        due(q.hand(9, 1), true);
        due(q.houseIs(0, 4), 255);
        due(q.houseIs(9, 4), 1);
        due(q.hand(0, 256), false);
        due(q.hand(0, -1), false);
        due(q.hand(10, 0), false);
        due(q.hand(-1, 0), false);
        due(q.houseIs(0, 4), 255);
        due(q.hand(0, 0), true);
        due(q.houseIs(0, 4), 0);
    }

    private static void ledger() {
        start(25);
        GhostQuarter q = new GhostQuarter();
        int[] hands = {3, 5, 6, 129, 128, 7, 15, 255, 0, 0};
        for (int h = 0; h < 10; h++) {
            due(q.hand(h, hands[h]), true);
        }
        due(q.ledger(3, 0, 1023, 0), 1);
        due(q.ledger(0, 0, 1023, 0), 768);
        due(q.ledger(0, 255, 1023, 0), 1023);
        due(q.ledger(7, 248, 1023, 0), 32 + 64 + 128);
        due(q.ledger(255, 248, 1023, 0), 32 + 64 + 128);
        due(q.ledger(7, 248, 96, 0), 96);
        due(q.ledger(9, 0, 1023, 0), 0);
        due(q.ledger(9, 0, 1023, 1), -2);
        due(q.ledger(0, 255, 0, 1), -2);
        // with 1: 0 1 3 5 6 7 (6), 2: 0 2 5 6 7 (5), 4: 1 2 5 6 7 (5)
        due(q.ledger(0, 255, 1023, 1), 1);
        due(q.ledger(0, 255, 96, 1), 3);
        due(q.ledger(0, 255, 24, 1), 0);
        due(q.ledger(0, 255, 768, 1), 0);
        due(q.ledger(0, 255, 16 + 256, 1), 7);
        due(q.ledger(256, 0, 1, 0), -1);
        due(q.ledger(-1, 0, 1, 0), -1);
        due(q.ledger(0, 256, 1, 0), -1);
        due(q.ledger(0, -1, 1, 0), -1);
        due(q.ledger(0, 0, 1024, 0), -1);
        due(q.ledger(0, 0, -1, 0), -1);
        due(q.ledger(0, 0, 1, 2), -1);
        due(q.ledger(0, 0, 1, -1), -1);
        due(q.ledger(9, 0, 0, 2), -1);
    }

    private static void seed() {
        start(26);
        GhostQuarter q = new GhostQuarter();
        due(q.seed(65535), true);
        due(q.count(7), 65535);
        due(q.seed(65536), false);
        due(q.seed(-1), false);
        due(q.count(7), 65535);
        quarter(q, "ab6./8./8./8./8./8./8./8.");
        due(q.goes(1, 1), 1);
        due(q.count(7), (int) ((25173L * 65535 + 13849) % 65536));
        due(q.seed(0), true);
        due(q.count(7), 0);
        due(q.goes(1, 1), 1);
        due(q.count(7), 13849);
    }

    private static void keepAndUndo() {
        start(28);
        GhostQuarter q = with("ab6./8./8./8./8./8./8./8.", "f9(1=1);c7(1=1);r5(1=1)");
        due(q.undo(), false);
        q.stranger(0, 4, 0, 30);
        q.stranger(1, 0, 4, 15);
        q.dog(0, true);
        q.dog(1, true);
        q.tells(0);
        due(q.haunts(0), 0);
        start(27);
        due(q.keep(), 1);
        start(28, "behind undo");
        due(q.haunts(0), 7);
        due(q.haunts(1), 0);
        q.tells(1);
        q.goes(1, 1);
        q.stranger(0, 5, 5, 1);
        q.stranger(7, 5, 5, 1);
        q.hand(0, 9);
        walk(q, 0, "3n");
        law(q, "m(1=2)");
        due(q.undo(), true);
        due(q.count(0), 1);
        due(q.count(1), 0);
        due(q.count(2), 3);
        due(q.count(3), 0);
        due(q.count(7), 1);
        due(q.strangerIs(0, 0), 4);
        due(q.strangerIs(0, 2), 30);
        due(q.strangerIs(1, 1), 9);
        due(q.strangerIs(1, 3), 0);
        due(q.houseIs(0, 2), 2);
        due(q.houseIs(1, 2), 1);
        // what is not kept stays as it is now
        due(q.houseIs(0, 4), 9);
        due(q.houseIs(0, 1), 3);
        due(q.count(5), 1);
        due(q.houseIs(0, 3), 0);
        // as often as one likes, as kept last
        law(q, "f9(1=1);c7(1=1)");
        due(q.haunts(0), 7);
        due(q.undo(), true);
        due(q.count(0), 1);
        due(q.haunts(0), 7);
        start(27, "KEPT again");
        due(q.keep(), 2);
        due(q.haunts(0), 0);
        start(28, "undone again");
        due(q.undo(), true);
        due(q.count(0), 2);
        due(q.count(1), 7);
        due(q.strangerIs(1, 3), 1);
        // a dog that is gone is not told; the dog of another house is as it was
        q.dog(0, false);
        due(q.undo(), true);
        due(q.houseIs(0, 2), 0);
        due(q.tells(0), false);
        due(q.dog(0, true), true);
        due(q.houseIs(0, 2), 1);
        due(q.undo(), true);
        due(q.houseIs(0, 2), 2);
    }

    private static void check() {
        start(29);
        GhostQuarter q = with("a7./8./8./8./8./8./8./8.", "f9+g(1=1)");
        q.stranger(0, 4, 0, 30);
        q.stranger(2, 4, 0, 30);
        q.stranger(9, 4, 0, 30);
        q.haunts(0);
        String right = bytes(0, 0, 0, 9) + bytes(0, 0, 0, 0) + bytes(0, 0, 0, 11) + times(bytes(0, 0, 0, 0), 6)
            + bytes(0, 0, 0, 18);
        tape(q, right);
        due(q.check(10), -1);
        due(q.count(6), 0);
        due(q.check(0), -1);
        due(q.check(1), -2);
        due(q.check(-1), -2);
        due(q.check(11), -2);
        tape(q, right);
        due(q.check(11), -2);
        due(q.check(-1), -2);
        due(q.count(6), 40);
        due(q.check(3), -1);
        due(q.count(6), 0);
        tape(q, bytes(0, 0, 0, 9) + bytes(0, 0, 0, 0) + bytes(0, 0, 0, 12) + bytes(0, 0, 0, 1));
        due(q.check(5), 2);
        tape(q, bytes(0, 0, 0, 9) + bytes(0, 0, 0, 0) + bytes(0, 0, 0, 12));
        due(q.check(2), -1);
        tape(q, bytes(0, 0, 0, 9) + bytes(1, 0, 0, 0));
        due(q.check(2), 1);
        tape(q, bytes(9, 0, 0, 0));
        due(q.check(1), 0);
        tape(q, bytes(255, 255, 255, 255));
        due(q.check(1), 0);
        tape(q, bytes(0, 0, 0, 9));
        due(q.check(6), -2);
        due(q.count(6), 20);
        due(q.check(5), 2);
        q.feed(1, 2, 3, 4, 5);
        due(q.check(0), -1);
        due(q.count(6), 0);
    }

    private static void count() {
        start(30);
        GhostQuarter q = with("a#5.j/8./8./8./8./8./8./7.b", "f9(1=1);c3(1=1)");
        q.stranger(2, 0, 4, 1);
        q.stranger(5, 3, 3, 1);
        due(q.haunts(0), 3);
        due(q.count(0), 1);
        due(q.count(1), 3);
        due(q.count(2), 36);
        due(q.count(3), 4);
        due(q.count(4), 515);
        due(q.count(5), 2);
        due(q.count(6), 0);
        q.feed(0, 0, 0, 0, 0);
        due(q.count(6), 20);
        due(q.count(7), 1);
        due(q.count(8), -1);
        due(q.count(-1), -1);
        due(q.count(99), -1);
        due(q.count(100), 2);
        due(q.count(101), 1);
        due(q.count(102), 0);
        due(q.count(107), 11);
        due(q.count(163), 3);
        due(q.count(164), -1);
        due(q.count(Integer.MIN_VALUE), -1);
        due(q.count(Integer.MAX_VALUE), -1);
    }
}
