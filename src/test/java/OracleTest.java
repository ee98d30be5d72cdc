import java.math.BigInteger;
import java.util.ArrayList;
import java.util.Arrays;
import java.util.HashMap;
import java.util.List;
import java.util.Map;
import java.util.Random;
import java.util.TreeSet;

/**
 * Drawn runs of calls (the same ones each time), each answer held against a plainer program that
 * tries all paths, all rows and all draws where the class reckons.
 */
public final class OracleTest {
    private static final int RUNS = 5000;
    /** No step makes more calls than are left from here to the 512th. */
    private static final int ENOUGH = 400;
    private static final int LAST_CALL = 512;
    private static int wrong = 0;
    private static int calls = 0;

    public static void main(String[] args) {
        for (int run = 0; run < RUNS && wrong < 20; run++) {
            new Run(run).go();
        }
        System.out.println(calls + " calls, " + wrong + " answers are not as due");
        if (wrong != 0) {
            System.exit(1);
        }
    }

    // ---- the plain program ----

    private static final class Fault extends RuntimeException {
        private static final long serialVersionUID = 1L;
        final int told;

        Fault(int number, int place) {
            super(null, null, false, false);
            told = -1000 * number - place;
        }
    }

    private static final class Refused extends RuntimeException {
        private static final long serialVersionUID = 1L;

        Refused() {
            super(null, null, false, false);
        }
    }

    private interface Sum {
        int of(Map<Character, Integer> facts);
    }

    private interface Condition {
        boolean holds(Map<Character, Integer> facts);
    }

    private static final class Clause {
        char letter;
        Sum sum;
        Condition condition;
    }

    private static final class Person {
        int x;
        int y;
        int fear;
        int courage;
        boolean paid;

        Person twin() {
            Person p = new Person();
            p.x = x;
            p.y = y;
            p.fear = fear;
            p.courage = courage;
            p.paid = paid;
            return p;
        }
    }

    private static final class Text {
        final String text;
        int i = 0;

        Text(String text) {
            this.text = text;
        }

        char peek() {
            return i < text.length() ? text.charAt(i) : 0;
        }

        boolean atEnd() {
            return i >= text.length();
        }

        Fault fault(int number) {
            return new Fault(number, i);
        }
    }

    private static String repeat(String s, int times) {
        StringBuilder b = new StringBuilder();
        for (int i = 0; i < times; i++) {
            b.append(s);
        }
        return b.toString();
    }

    private static String[] readQuarter(String text) {
        Text t = new Text(text);
        String[] rows = new String[8];
        String used = "";
        for (int y = 0; y < 8; y++) {
            String row = "";
            while (true) {
                char c = t.peek();
                if (row.length() == 8 && (y < 7 ? c == '/' : t.atEnd())) {
                    break;
                }
                if (c == '.' || c == '#') {
                    if (row.length() == 8) {
                        throw t.fault(6);
                    }
                    row += c;
                } else if (c >= '2' && c <= '8') {
                    if (row.length() + (c - '0') > 8) {
                        throw t.fault(6);
                    }
                    t.i++;
                    char d = t.peek();
                    if (d != '.' && d != '#') {
                        throw t.fault(1);
                    }
                    row += repeat("" + d, c - '0');
                } else if (c >= 'a' && c <= 'j') {
                    if (row.length() == 8) {
                        throw t.fault(6);
                    }
                    if (used.indexOf(c) >= 0) {
                        throw t.fault(7);
                    }
                    used += c;
                    row += c;
                } else {
                    throw t.fault(1);
                }
                t.i++;
            }
            rows[y] = row;
            t.i++;
        }
        return rows;
    }

    private static String readWalk(String text) {
        Text t = new Text(text);
        String steps = readSteps(t, 0, 0);
        if (!t.atEnd()) {
            throw t.fault(1);
        }
        return steps;
    }

    private static String readSteps(Text t, int open, int before) {
        String steps = "";
        while (true) {
            int first = t.i;
            int times = 1;
            if (t.peek() >= '2' && t.peek() <= '9') {
                times = t.peek() - '0';
                t.i++;
            }
            String unit;
            char c = t.peek();
            if (c == 'n' || c == 'e' || c == 's' || c == 'w' || c == '.') {
                unit = "" + c;
                t.i++;
            } else if (c == '(') {
                if (open == 3) {
                    throw t.fault(5);
                }
                t.i++;
                unit = readSteps(t, open + 1, before + steps.length());
                if (t.peek() != ')') {
                    throw t.fault(1);
                }
                t.i++;
            } else {
                throw t.fault(1);
            }
            if (before + steps.length() + times * unit.length() > 60) {
                throw new Fault(6, first);
            }
            steps += repeat(unit, times);
            if (t.atEnd() || t.peek() == ')') {
                return steps;
            }
        }
    }

    private static List<Clause> readLaw(String text) {
        Text t = new Text(text);
        List<Clause> law = new ArrayList<>();
        while (true) {
            char c = t.peek();
            if (c == 0 || "fcmr".indexOf(c) < 0) {
                throw t.fault(1);
            }
            if (law.size() == 16) {
                throw t.fault(4);
            }
            t.i++;
            Clause clause = new Clause();
            clause.letter = c;
            if (c != 'm') {
                clause.sum = readSum(t, 0);
            }
            want(t, '(');
            clause.condition = readC(t, 1);
            want(t, ')');
            law.add(clause);
            if (t.atEnd()) {
                return law;
            }
            want(t, ';');
        }
    }

    private static void want(Text t, char c) {
        if (t.peek() != c || t.atEnd()) {
            throw t.fault(1);
        }
        t.i++;
    }

    private static Condition readC(Text t, int open) {
        List<Condition> parts = new ArrayList<>();
        parts.add(readPart(t, open));
        while (t.peek() == '|') {
            t.i++;
            parts.add(readPart(t, open));
        }
        return facts -> {
            for (Condition part : parts) {
                if (part.holds(facts)) {
                    return true;
                }
            }
            return false;
        };
    }

    private static Condition readPart(Text t, int open) {
        List<Condition> pieces = new ArrayList<>();
        pieces.add(readPiece(t, open));
        while (t.peek() == '&') {
            t.i++;
            pieces.add(readPiece(t, open));
        }
        return facts -> {
            for (Condition piece : pieces) {
                if (!piece.holds(facts)) {
                    return false;
                }
            }
            return true;
        };
    }

    private static Condition readPiece(Text t, int open) {
        char c = t.peek();
        if ((c == '!' || c == '(') && open == 6) {
            throw t.fault(5);
        }
        if (c == '!') {
            t.i++;
            Condition of = readPiece(t, open + 1);
            return facts -> !of.holds(facts);
        }
        if (c == '(') {
            t.i++;
            Condition of = readC(t, open + 1);
            want(t, ')');
            return of;
        }
        Sum left = readSum(t, open);
        char sign = t.peek();
        if (sign != '<' && sign != '>' && sign != '=') {
            throw t.fault(1);
        }
        t.i++;
        Sum right = readSum(t, open);
        return facts -> {
            int a = left.of(facts);
            int b = right.of(facts);
            return sign == '<' ? a < b : sign == '>' ? a > b : a == b;
        };
    }

    private static Sum readSum(Text t, int open) {
        Sum sum = readTerm(t, open);
        while (t.peek() == '+' || t.peek() == '-') {
            char sign = t.peek();
            t.i++;
            Sum left = sum;
            Sum right = readTerm(t, open);
            sum = facts -> {
                long a = left.of(facts);
                long b = right.of(facts);
                return (int) (sign == '+' ? a + b : a - b);
            };
        }
        return sum;
    }

    private static Sum readTerm(Text t, int open) {
        Sum sum = readFactor(t, open);
        while (t.peek() == '*' || t.peek() == '/' || t.peek() == '%') {
            char sign = t.peek();
            t.i++;
            Sum left = sum;
            Sum right = readFactor(t, open);
            sum = facts -> {
                long a = left.of(facts);
                long b = right.of(facts);
                if (sign != '*' && b == 0) {
                    throw new Refused();
                }
                return (int) (sign == '*' ? a * b : sign == '/' ? a / b : a % b);
            };
        }
        return sum;
    }

    private static Sum readFactor(Text t, int open) {
        char c = t.peek();
        if (c == '[') {
            if (open == 6) {
                throw t.fault(5);
            }
            t.i++;
            Sum sum = readSum(t, open + 1);
            want(t, ']');
            return sum;
        }
        if (c >= '0' && c <= '9') {
            String digits = "";
            while (t.peek() >= '0' && t.peek() <= '9') {
                if (digits.length() == 5) {
                    throw t.fault(2);
                }
                digits += t.peek();
                t.i++;
            }
            int number = Integer.parseInt(digits);
            return facts -> number;
        }
        if (c == 0 || "hjgabktdwo".indexOf(c) < 0) {
            throw t.fault(1);
        }
        t.i++;
        return facts -> facts.getOrDefault(c, 0);
    }

    private static final class Gone {
        int coins;
        int payers;
        int barks;
        int seen;
        int growth;
        int[] payMinute = new int[10];
        int[] grown = new int[10];
        List<Integer> path;
        Person[] after;
    }

    private static final class Plain {
        List<Integer> tape = new ArrayList<>();
        String[] rows = readQuarter("8./8./8./8./8./8./8./8.");
        String[] walks = new String[10];
        List<Clause> law = new ArrayList<>();
        Person[] people = new Person[10];
        boolean[] dogs = new boolean[10];
        boolean[] toldDogs = new boolean[10];
        int[] hands = new int[10];
        int coins = 0;
        int nights = 0;
        int x = 1;
        Plain kept = null;

        Plain() {
            Arrays.fill(walks, "");
        }

        char at(int spot) {
            return rows[spot / 8].charAt(spot % 8);
        }

        int home(int h) {
            for (int spot = 0; spot < 64; spot++) {
                if (at(spot) == 'a' + h) {
                    return spot;
                }
            }
            return -1;
        }

        boolean hasSpot(int h) {
            return h >= 0 && h <= 9 && home(h) >= 0;
        }

        int withSpots() {
            int bits = 0;
            for (int h = 0; h < 10; h++) {
                bits |= hasSpot(h) ? 1 << h : 0;
            }
            return bits;
        }

        boolean sees(int from, int to) {
            int x1 = from % 8;
            int y1 = from / 8;
            int x2 = to % 8;
            int y2 = to / 8;
            if (x1 != x2 && y1 != y2) {
                return false;
            }
            int dx = Integer.signum(x2 - x1);
            int dy = Integer.signum(y2 - y1);
            int many = Math.max(Math.abs(x1 - x2), Math.abs(y1 - y2));
            for (int i = 1; i < many; i++) {
                if (rows[y1 + dy * i].charAt(x1 + dx * i) != '.') {
                    return false;
                }
            }
            return true;
        }

        int go(int spot, char step) {
            int sx = spot % 8 + (step == 'e' ? 1 : step == 'w' ? -1 : 0);
            int sy = spot / 8 + (step == 'n' ? 1 : step == 's' ? -1 : 0);
            if (sx < 0 || sx > 7 || sy < 0 || sy > 7 || rows[sy].charAt(sx) == '#') {
                return spot;
            }
            return 8 * sy + sx;
        }

        List<Integer> path(int h) {
            List<Integer> path = new ArrayList<>();
            int spot = home(h);
            path.add(spot);
            for (char step : walks[h].toCharArray()) {
                spot = go(spot, step);
                path.add(spot);
            }
            return path;
        }

        int apart(int a, int b) {
            return Math.abs(a % 8 - b % 8) + Math.abs(a / 8 - b / 8);
        }

        int worth(char letter, int bound, Map<Character, Integer> facts) {
            for (Clause clause : law) {
                if (clause.letter == letter && holds(clause, facts)) {
                    int value;
                    try {
                        value = clause.sum.of(facts);
                    } catch (Refused r) {
                        value = 0;
                    }
                    return value < 0 ? 0 : value > bound ? bound : value;
                }
            }
            return 0;
        }

        boolean holds(Clause clause, Map<Character, Integer> facts) {
            try {
                return clause.condition.holds(facts);
            } catch (Refused r) {
                return false;
            }
        }

        Map<Character, Integer> facts(int h, int night) {
            Map<Character, Integer> facts = new HashMap<>();
            facts.put('h', h);
            facts.put('d', night);
            facts.put('w', night % 7);
            return facts;
        }

        int fear(int h, int g, Person p, int ghost, int t) {
            Map<Character, Integer> facts = facts(h, nights);
            facts.put('g', g);
            facts.put('a', apart(8 * p.y + p.x, ghost));
            facts.put('b', p.fear);
            facts.put('k', p.courage);
            facts.put('t', t);
            return worth('f', 99, facts);
        }

        int pay(int h, int g, Person p, int t) {
            Map<Character, Integer> facts = facts(h, nights);
            facts.put('g', g);
            facts.put('b', p.fear);
            facts.put('k', p.courage);
            facts.put('t', t);
            return worth('c', 999, facts);
        }

        boolean may(int h, int night) {
            boolean any = false;
            for (Clause clause : law) {
                if (clause.letter == 'm') {
                    any = true;
                    if (holds(clause, facts(h, night))) {
                        return true;
                    }
                }
            }
            return !any;
        }

        Gone night(int h) {
            Gone gone = new Gone();
            gone.path = path(h);
            gone.after = new Person[10];
            Arrays.fill(gone.payMinute, -2);
            for (int g = 0; g < 10; g++) {
                gone.after[g] = people[g] == null ? null : people[g].twin();
            }
            for (int t = 0; t < gone.path.size(); t++) {
                int ghost = gone.path.get(t);
                boolean seen = false;
                for (int g = 0; g < 10; g++) {
                    Person p = gone.after[g];
                    if (p == null || p.paid || !sees(8 * p.y + p.x, ghost)) {
                        continue;
                    }
                    seen = true;
                    int fear = Math.min(999, p.fear + fear(h, g, p, ghost, t));
                    gone.growth += fear - p.fear;
                    gone.grown[g] += fear - p.fear;
                    p.fear = fear;
                    if (p.fear >= p.courage) {
                        gone.coins += pay(h, g, p, t);
                        gone.payers |= 1 << g;
                        gone.payMinute[g] = t;
                        p.paid = true;
                    }
                }
                gone.seen += seen ? 1 : 0;
                for (int d = 0; d < 10; d++) {
                    if (d != h && dogs[d] && !toldDogs[d] && home(d) >= 0 && apart(home(d), ghost) < 2) {
                        gone.barks++;
                    }
                }
            }
            return gone;
        }

        String take(int n) {
            StringBuilder b = new StringBuilder();
            for (int i = 0; i < n; i++) {
                b.append((char) (int) tape.get(i));
            }
            tape.clear();
            return b.toString();
        }

        int feed(int... numbers) {
            if (tape.size() > 240) {
                return -1;
            }
            for (int number : numbers) {
                tape.add(number >>> 24);
                tape.add(number >>> 16 & 255);
                tape.add(number >>> 8 & 255);
                tape.add(number & 255);
            }
            return tape.size();
        }

        int quarter(int n) {
            if (n < 1 || n > 120 || tape.size() < n) {
                return -1;
            }
            try {
                rows = readQuarter(take(n));
            } catch (Fault f) {
                return f.told;
            }
            for (int g = 0; g < 10; g++) {
                if (people[g] != null && rows[people[g].y].charAt(people[g].x) == '#') {
                    people[g] = null;
                }
            }
            return Integer.bitCount(withSpots());
        }

        int walk(int h, int n) {
            if (h < 0 || h > 9 || n < 1 || n > 80 || tape.size() < n) {
                return -1;
            }
            try {
                walks[h] = readWalk(take(n));
            } catch (Fault f) {
                return f.told;
            }
            return walks[h].length();
        }

        int law(int n) {
            if (n < 1 || n > 240 || tape.size() < n) {
                return -1;
            }
            try {
                law = readLaw(take(n));
            } catch (Fault f) {
                return f.told;
            }
            return law.size();
        }

        boolean stranger(int g, int px, int py, int courage) {
            if (g < 0 || g > 9 || px < 0 || px > 7 || py < 0 || py > 7 || courage < 1 || courage > 999) {
                return false;
            }
            if (rows[py].charAt(px) == '#') {
                return false;
            }
            Person p = new Person();
            p.x = px;
            p.y = py;
            p.courage = courage;
            people[g] = p;
            return true;
        }

        boolean dog(int h, boolean has) {
            if (h < 0 || h > 9) {
                return false;
            }
            dogs[h] = has;
            toldDogs[h] = false;
            return true;
        }

        boolean tells(int h) {
            if (h < 0 || h > 9 || !dogs[h] || toldDogs[h]) {
                return false;
            }
            toldDogs[h] = true;
            return true;
        }

        int haunts(int h) {
            if (!hasSpot(h)) {
                return -1;
            }
            if (!may(h, nights)) {
                return -2;
            }
            Gone gone = night(h);
            people = gone.after;
            coins += gone.coins;
            nights++;
            return gone.coins;
        }

        int tried(int h, int what) {
            if (!hasSpot(h)) {
                return -1;
            }
            Gone gone = night(h);
            int last = gone.path.size() - 1;
            int[] first = {gone.coins, gone.payers, gone.barks, gone.seen, gone.path.get(last), gone.growth};
            if (what >= 0 && what < 6) {
                return first[what];
            }
            if (what >= 10 && what < 20 && people[what - 10] != null) {
                return gone.payMinute[what - 10];
            }
            return what >= 20 && what - 20 <= last ? gone.path.get(what - 20) : -1;
        }

        int strangerIs(int g, int what) {
            if (g < 0 || g > 9 || people[g] == null || what < 0 || what > 4) {
                return -1;
            }
            Person p = people[g];
            int houses = 0;
            for (int h = 0; h < 10; h++) {
                if (!p.paid && hasSpot(h) && sees(8 * p.y + p.x, home(h))) {
                    houses |= 1 << h;
                }
            }
            return new int[] {8 * p.y + p.x, p.fear, p.courage, p.paid ? 1 : 0, houses}[what];
        }

        int houseIs(int h, int what) {
            if (h < 0 || h > 9 || what < 0 || what > 4) {
                return -1;
            }
            int dog = !dogs[h] ? 0 : toldDogs[h] ? 2 : 1;
            int can = hasSpot(h) && may(h, nights) ? 1 : 0;
            return new int[] {hasSpot(h) ? home(h) : -2, walks[h].length(), dog, can, hands[h]}[what];
        }

        int meet(int h, int j, int what) {
            if (!hasSpot(h) || !hasSpot(j) || h == j || what < 0 || what > 2) {
                return -1;
            }
            List<Integer> a = path(h);
            List<Integer> b = path(j);
            while (a.size() < b.size()) {
                a.add(a.get(a.size() - 1));
            }
            while (b.size() < a.size()) {
                b.add(b.get(b.size() - 1));
            }
            for (int t = 1; t < a.size(); t++) {
                boolean same = a.get(t).equals(b.get(t));
                boolean changed = a.get(t).equals(b.get(t - 1)) && b.get(t).equals(a.get(t - 1));
                if (same || changed) {
                    return what == 0 ? t : what == 1 ? a.get(t) : b.get(t);
                }
            }
            return -2;
        }

        int dreadHere(int h, int spot, int t) {
            int sum = 0;
            for (int g = 0; g < 10; g++) {
                Person p = people[g];
                if (p != null && !p.paid && sees(8 * p.y + p.x, spot)) {
                    sum += fear(h, g, p, spot, t);
                }
            }
            return sum;
        }

        /** From the spot in that minute on: the most for each end. */
        void allWays(int h, int spot, int t, int m, int sum, int[] most) {
            int now = sum + dreadHere(h, spot, t);
            if (t == m - 1) {
                most[spot] = Math.max(most[spot], now);
                return;
            }
            for (char step : "nesw.".toCharArray()) {
                allWays(h, go(spot, step), t + 1, m, now, most);
            }
        }

        /** Backwards from each end. */
        void fromEnds(int h, int m, int[] most) {
            int[][] here = new int[m][64];
            for (int t = 0; t < m; t++) {
                for (int spot = 0; spot < 64; spot++) {
                    here[t][spot] = dreadHere(h, spot, t);
                }
            }
            for (int end = 0; end < 64; end++) {
                if (at(end) == '#') {
                    continue;
                }
                int[] can = new int[64];
                Arrays.fill(can, -1);
                can[end] = here[m - 1][end];
                for (int t = m - 2; t >= 0; t--) {
                    int[] before = new int[64];
                    for (int spot = 0; spot < 64; spot++) {
                        before[spot] = -1;
                        if (at(spot) == '#') {
                            continue;
                        }
                        for (char step : "nesw.".toCharArray()) {
                            int to = can[go(spot, step)];
                            if (to >= 0) {
                                before[spot] = Math.max(before[spot], to + here[t][spot]);
                            }
                        }
                    }
                    can = before;
                }
                most[end] = can[home(h)];
            }
        }

        int dread(int h, int m, int what) {
            if (!hasSpot(h) || m < 1 || m > 40 || what < 0 || what > 1) {
                return -1;
            }
            int[] most = new int[64];
            Arrays.fill(most, -1);
            if (m < 6) {
                allWays(h, home(h), 0, m, 0, most);
            } else {
                fromEnds(h, m, most);
            }
            int best = 0;
            for (int spot = 1; spot < 64; spot++) {
                if (most[spot] > most[best]) {
                    best = spot;
                }
            }
            return what == 0 ? most[best] : best;
        }

        int unseen(int h, int spot, int what) {
            if (!hasSpot(h) || spot < 0 || spot > 63 || what < 0 || what > 1) {
                return -1;
            }
            int[] seen = new int[64];
            int[] steps = new int[64];
            Arrays.fill(seen, 1000000);
            int[] here = new int[64];
            for (int s = 0; s < 64; s++) {
                for (Person p : people) {
                    if (p != null && !p.paid && sees(8 * p.y + p.x, s)) {
                        here[s]++;
                    }
                }
            }
            seen[home(h)] = here[home(h)];
            for (int round = 0; round < 64; round++) {
                for (int s = 0; s < 64; s++) {
                    for (char step : "nesw".toCharArray()) {
                        int to = go(s, step);
                        if (seen[s] < 1000000 && to != s) {
                            int minutes = seen[s] + here[to];
                            if (minutes < seen[to] || minutes == seen[to] && steps[s] + 1 < steps[to]) {
                                seen[to] = minutes;
                                steps[to] = steps[s] + 1;
                            }
                        }
                    }
                }
            }
            return seen[spot] == 1000000 ? -2 : what == 0 ? seen[spot] : steps[spot];
        }

        int watch(int what) {
            if (what < 0 || what > 1) {
                return -1;
            }
            int best = -2;
            int most = -2;
            for (int spot = 63; spot >= 0; spot--) {
                if (at(spot) != '.') {
                    continue;
                }
                int sum = 0;
                for (int h = 0; h < 10; h++) {
                    if (hasSpot(h)) {
                        for (int ghost : path(h)) {
                            sum += sees(spot, ghost) ? 1 : 0;
                        }
                    }
                }
                if (sum >= most) {
                    most = sum;
                    best = spot;
                }
            }
            return what == 0 ? best : most;
        }

        int feared(int g, int what) {
            if (g < 0 || g > 9 || people[g] == null || what < 0 || what > 1) {
                return -1;
            }
            int best = -2;
            int most = 0;
            for (int h = 0; h < 10; h++) {
                if (hasSpot(h) && night(h).grown[g] > most) {
                    most = night(h).grown[g];
                    best = h;
                }
            }
            return what == 0 ? best : most;
        }

        boolean canGo(int from, int to, int steps) {
            TreeSet<Integer> spots = new TreeSet<>();
            spots.add(from);
            for (int i = 0; i < steps && i < 64; i++) {
                TreeSet<Integer> more = new TreeSet<>(spots);
                for (int spot : spots) {
                    for (char step : "nesw".toCharArray()) {
                        more.add(go(spot, step));
                    }
                }
                spots = more;
            }
            return spots.contains(to);
        }

        int sightings(int n, int what) {
            if (n < 1 || n > 10 || what < 0 || what > 1 || tape.size() < 2 * n) {
                return -1;
            }
            int[] minutes = new int[n];
            int[] spots = new int[n];
            for (int i = 0; i < n; i++) {
                minutes[i] = tape.get(2 * i);
                spots[i] = tape.get(2 * i + 1);
            }
            tape.clear();
            for (int i = 0; i < n; i++) {
                if (spots[i] > 63 || at(spots[i]) == '#' || i > 0 && minutes[i] < minutes[i - 1]) {
                    return -2;
                }
            }
            boolean[][] can = new boolean[n][n];
            for (int i = 0; i < n; i++) {
                for (int j = i + 1; j < n; j++) {
                    can[i][j] = canGo(spots[i], spots[j], minutes[j] - minutes[i]);
                }
            }
            if (what == 0) {
                return fewest(0, n, can, new ArrayList<>(), n);
            }
            for (int i = 1; i < n; i++) {
                if (!can[i - 1][i]) {
                    return 0;
                }
            }
            int houses = 0;
            for (int h = 0; h < 10; h++) {
                if (hasSpot(h) && canGo(home(h), spots[0], minutes[0])) {
                    houses |= 1 << h;
                }
            }
            return houses;
        }

        /** Gives each sighting to each ghost that can make it, and to a new one. */
        int fewest(int i, int n, boolean[][] can, List<Integer> lasts, int best) {
            if (lasts.size() >= best) {
                return best;
            }
            if (i == n) {
                return lasts.size();
            }
            for (int g = 0; g < lasts.size(); g++) {
                int last = lasts.get(g);
                if (can[last][i]) {
                    lasts.set(g, i);
                    best = Math.min(best, fewest(i + 1, n, can, lasts, best));
                    lasts.set(g, last);
                }
            }
            lasts.add(i);
            best = Math.min(best, fewest(i + 1, n, can, lasts, best));
            lasts.remove(lasts.size() - 1);
            return best;
        }

        int rotas(int n, int houses, int k, int what) {
            if (n < 1 || n > 14 || houses < 1 || houses > 1023 || k < 1 || k > 3) {
                return -1;
            }
            if (Integer.bitCount(houses) > 5 || (houses & ~withSpots()) != 0) {
                return -1;
            }
            if (what != 100 && what != 101 && (what < 0 || what >= n)) {
                return -1;
            }
            boolean[][] allowed = new boolean[n][10];
            for (int i = 0; i < n; i++) {
                for (int h = 0; h < 10; h++) {
                    allowed[i][h] = (houses >> h & 1) == 1 && may(h, nights + i);
                }
            }
            AllRows all = new AllRows(n, houses, k, allowed);
            all.from(0);
            if (what == 100) {
                return all.many;
            }
            if (all.many == 0) {
                return -2;
            }
            return what == 101 ? all.even : all.first[what];
        }

        int goes(int houses, int n) {
            if (houses < 0 || houses > 1023 || n < 1 || n > 20) {
                return -1;
            }
            int knows = houses & withSpots();
            for (int day = 0; day < n; day++) {
                int then = knows;
                for (int h = 0; h < 10; h++) {
                    for (int j = 0; j < 10; j++) {
                        if ((knows >> h & 1) == 1 && (knows >> j & 1) == 0 && hasSpot(j)) {
                            x = (int) ((25173L * x + 13849) % 65536);
                            if (x % 10 < tenths(h, j)) {
                                then |= 1 << j;
                            }
                        }
                    }
                }
                knows = then;
            }
            return knows;
        }

        int tenths(int h, int j) {
            Map<Character, Integer> facts = facts(h, nights);
            facts.put('j', j);
            facts.put('o', apart(home(h), home(j)));
            return worth('r', 10, facts);
        }

        BigInteger[] oddsOf(int knows, int j) {
            BigInteger all = BigInteger.ONE;
            BigInteger silent = BigInteger.ONE;
            for (int h = 0; h < 10; h++) {
                if ((knows >> h & 1) == 1) {
                    all = all.multiply(BigInteger.TEN);
                    silent = silent.multiply(BigInteger.valueOf(10 - tenths(h, j)));
                }
            }
            return new BigInteger[] {all.subtract(silent), all};
        }

        /** Goes through all rows of draws. */
        BigInteger[] oddsByDraws(int knows, int j) {
            List<Integer> rumours = new ArrayList<>();
            for (int h = 0; h < 10; h++) {
                if ((knows >> h & 1) == 1) {
                    rumours.add(tenths(h, j));
                }
            }
            int all = (int) Math.round(Math.pow(10, rumours.size()));
            int told = 0;
            for (int draws = 0; draws < all; draws++) {
                boolean hears = false;
                int rest = draws;
                for (int r : rumours) {
                    hears |= rest % 10 < r;
                    rest /= 10;
                }
                told += hears ? 1 : 0;
            }
            return new BigInteger[] {BigInteger.valueOf(told), BigInteger.valueOf(all)};
        }

        long odds(int houses, int h, int what) {
            if (houses < 0 || houses > 1023 || !hasSpot(h) || (houses >> h & 1) == 1 || what < 0 || what > 1) {
                return -1;
            }
            int knows = houses & withSpots();
            BigInteger[] odds = Integer.bitCount(knows) < 4 ? oddsByDraws(knows, h) : oddsOf(knows, h);
            return odds[what].divide(odds[0].gcd(odds[1])).longValueExact();
        }

        int watered(int houses) {
            if (houses < 0 || houses > 1023) {
                return -1;
            }
            int best = -2;
            BigInteger most = null;
            for (int c = 0; c < 10; c++) {
                if (!hasSpot(c) || (houses >> c & 1) == 1) {
                    continue;
                }
                int knows = houses & withSpots() | 1 << c;
                BigInteger sum = BigInteger.ZERO;
                for (int j = 0; j < 10; j++) {
                    if (hasSpot(j) && (knows >> j & 1) == 0) {
                        sum = sum.add(oddsOf(knows, j)[0]);
                    }
                }
                if (most == null || sum.compareTo(most) > 0) {
                    most = sum;
                    best = c;
                }
            }
            return best;
        }

        int tax(int h) {
            if (h < 0 || h > 9 || tape.size() < 10) {
                return -1;
            }
            List<Integer> told = new ArrayList<>(tape.subList(0, 10));
            tape.clear();
            int all = 0;
            for (int n : told) {
                if (n > 99) {
                    return -2;
                }
                all += n;
            }
            if (all == 0) {
                return -2;
            }
            int[] share = new int[10];
            List<Integer> order = new ArrayList<>();
            int left = coins;
            for (int i = 0; i < 10; i++) {
                share[i] = BigInteger.valueOf(coins).multiply(BigInteger.valueOf(told.get(i)))
                    .divide(BigInteger.valueOf(all)).intValueExact();
                left -= share[i];
                order.add(i);
            }
            int sum = all;
            order.sort((p, q) -> (int) ((long) coins * told.get(q) % sum - (long) coins * told.get(p) % sum));
            for (int i = 0; i < left; i++) {
                share[order.get(i)]++;
            }
            return share[h];
        }

        boolean hand(int h, int marks) {
            if (h < 0 || h > 9 || marks < 0 || marks > 255) {
                return false;
            }
            hands[h] = marks;
            return true;
        }

        int ledger(int marks, int blurred, int houses, int what) {
            if (marks < 0 || marks > 255 || blurred < 0 || blurred > 255 || houses < 0 || houses > 1023) {
                return -1;
            }
            if (what < 0 || what > 1) {
                return -1;
            }
            List<Integer> fit = new ArrayList<>();
            int bits = 0;
            for (int h = 0; h < 10; h++) {
                boolean fits = (houses >> h & 1) == 1;
                for (int m = 0; m < 8; m++) {
                    if ((blurred >> m & 1) == 0 && (marks >> m & 1) != (hands[h] >> m & 1)) {
                        fits = false;
                    }
                }
                if (fits) {
                    fit.add(h);
                    bits |= 1 << h;
                }
            }
            if (what == 0) {
                return bits;
            }
            int best = -2;
            int least = 100;
            for (int m = 0; m < 8 && !fit.isEmpty(); m++) {
                int with = 0;
                int without = 0;
                for (int h : fit) {
                    if ((hands[h] >> m & 1) == 1) {
                        with++;
                    } else {
                        without++;
                    }
                }
                if (Math.max(with, without) < least) {
                    least = Math.max(with, without);
                    best = m;
                }
            }
            return best;
        }

        boolean seed(int s) {
            if (s < 0 || s > 65535) {
                return false;
            }
            x = s;
            return true;
        }

        void copyTo(Plain other) {
            for (int g = 0; g < 10; g++) {
                other.people[g] = people[g] == null ? null : people[g].twin();
            }
            other.toldDogs = toldDogs.clone();
            other.coins = coins;
            other.nights = nights;
            other.x = x;
        }

        int keep() {
            kept = new Plain();
            copyTo(kept);
            return nights;
        }

        boolean undo() {
            if (kept == null) {
                return false;
            }
            kept.copyTo(this);
            return true;
        }

        int check(int n) {
            if (n < 0 || n > 10 || tape.size() < 4 * n) {
                return -2;
            }
            int wrongOne = -1;
            for (int g = 0; g < n && wrongOne == -1; g++) {
                long number = (tape.get(4 * g) * 256L + tape.get(4 * g + 1)) * 65536L
                    + tape.get(4 * g + 2) * 256L + tape.get(4 * g + 3);
                if (number != (people[g] == null ? 0 : people[g].fear)) {
                    wrongOne = g;
                }
            }
            tape.clear();
            return wrongOne;
        }

        int count(int what) {
            if (what >= 100 && what < 164) {
                char c = at(what - 100);
                return c == '.' ? 0 : c == '#' ? 1 : 2 + c - 'a';
            }
            int told = 0;
            int paid = 0;
            for (int g = 0; g < 10; g++) {
                told |= people[g] != null ? 1 << g : 0;
                paid |= people[g] != null && people[g].paid ? 1 << g : 0;
            }
            int[] all = {nights, coins, told, paid, withSpots(), law.size(), tape.size(), x};
            return what >= 0 && what < 8 ? all[what] : -1;
        }
    }

    private static final class AllRows {
        final int n;
        final int houses;
        final int k;
        final boolean[][] allowed;
        final int[] row = new int[14];
        final int[] had = new int[10];
        int[] first = null;
        int many = 0;
        int even = 99;

        AllRows(int n, int houses, int k, boolean[][] allowed) {
            this.n = n;
            this.houses = houses;
            this.k = k;
            this.allowed = allowed;
        }

        void from(int night) {
            if (night == n) {
                many++;
                if (first == null) {
                    first = row.clone();
                }
                int least = 99;
                int most = 0;
                for (int h = 0; h < 10; h++) {
                    if ((houses >> h & 1) == 1) {
                        least = Math.min(least, had[h]);
                        most = Math.max(most, had[h]);
                    }
                }
                even = Math.min(even, most - least);
                return;
            }
            for (int h = 0; h < 10; h++) {
                if (allowed[night][h] && had[h] < k && (night == 0 || row[night - 1] != h)) {
                    row[night] = h;
                    had[h]++;
                    from(night + 1);
                    had[h]--;
                }
            }
        }
    }

    // ---- the drawn runs ----

    private static final class Run {
        final int number;
        final Random random;
        final Plain plain = new Plain();
        final GhostQuarter real = new GhostQuarter();
        final List<String> told = new ArrayList<>();
        int mine = 0;

        Run(int number) {
            this.number = number;
            this.random = new Random(number);
        }

        int draw(int n) {
            return random.nextInt(n);
        }

        /** Mostly one of the numbers below n, at times another one. */
        int near(int n) {
            int kind = draw(40);
            if (kind == 0) {
                return random.nextInt();
            }
            if (kind == 1) {
                return -1 - draw(3);
            }
            return kind == 2 ? n + draw(3) : draw(n);
        }

        void go() {
            for (int i = 0; mine < ENOUGH && wrong < 20; i++) {
                if (i < 20) {
                    begin(i);
                } else {
                    step();
                }
            }
            for (int what = -1; what < 9; what++) {
                due("count", real.count(what), plain.count(what), what);
            }
            if (mine > LAST_CALL) {
                throw new IllegalStateException("run " + number + " makes " + mine + " calls");
            }
        }

        void begin(int i) {
            if (i == 0) {
                quarter();
            } else if (i == 1) {
                law();
            } else if (i < 8) {
                stranger();
            } else if (i < 16) {
                walk();
            } else {
                dog();
            }
        }

        void due(String name, long got, long want, int... args) {
            calls++;
            mine++;
            told.add(name + Arrays.toString(args) + " = " + got);
            if (got != want) {
                wrong++;
                System.out.println("run " + number + ": " + name + Arrays.toString(args) + " answered " + got
                    + ", due is " + want);
                for (int i = Math.max(0, told.size() - 60); i < told.size(); i++) {
                    System.out.println("    " + told.get(i));
                }
            }
        }

        void due(String name, boolean got, boolean want, int... args) {
            due(name, got ? 1 : 0, want ? 1 : 0, args);
        }

        void feed(byte[] bytes) {
            byte[] all = Arrays.copyOf(bytes, (bytes.length + 19) / 20 * 20);
            for (int i = bytes.length; i < all.length; i++) {
                all[i] = (byte) "x.n)1/;".charAt(draw(7));
            }
            for (int i = 0; i < all.length; i += 20) {
                int[] n = new int[5];
                for (int j = 0; j < 20; j++) {
                    n[j / 4] = n[j / 4] << 8 | all[i + j] & 255;
                }
                due("feed", real.feed(n[0], n[1], n[2], n[3], n[4]), plain.feed(n[0], n[1], n[2], n[3], n[4]), n);
            }
        }

        void clearTape() {
            if (draw(30) != 0) {
                due("check", real.check(0), plain.check(0), 0);
            }
        }

        int put(String text) {
            clearTape();
            told.add("\"" + text + "\"");
            byte[] bytes = new byte[text.length()];
            for (int i = 0; i < bytes.length; i++) {
                bytes[i] = (byte) text.charAt(i);
            }
            feed(bytes);
            return draw(25) == 0 ? near(text.length() + 3) : text.length();
        }

        String spoil(String text, String signs) {
            if (mine < 150 || draw(3) != 0) {
                return text;
            }
            StringBuilder b = new StringBuilder(text);
            int place = draw(b.length());
            char sign = draw(8) == 0 ? (char) draw(256) : signs.charAt(draw(signs.length()));
            switch (draw(3)) {
                case 0:
                    b.setCharAt(place, sign);
                    break;
                case 1:
                    b.insert(place, sign);
                    break;
                default:
                    b.deleteCharAt(place);
                    break;
            }
            return b.toString();
        }

        void quarter() {
            char[] spots = new char[64];
            int walls = draw(5) == 0 ? 40 : draw(18);
            for (int i = 0; i < 64; i++) {
                spots[i] = draw(64) < walls ? '#' : '.';
            }
            int houses = draw(4) == 0 ? draw(14) : 7 + draw(9);
            for (int h = 0; h < houses; h++) {
                spots[draw(64)] = (char) ('a' + draw(10));
            }
            StringBuilder b = new StringBuilder();
            String used = "";
            for (int i = 0; i < 64; i++) {
                if (i > 0 && i % 8 == 0) {
                    b.append('/');
                }
                int same = 1;
                while (i % 8 + same < 8 && spots[i + same] == spots[i]) {
                    same++;
                }
                boolean house = spots[i] >= 'a';
                if (house && used.indexOf(spots[i]) >= 0 && draw(20) != 0) {
                    b.append('.');
                } else if (house || same == 1 || draw(3) == 0) {
                    b.append(spots[i]);
                    used += house ? spots[i] : "";
                } else {
                    int many = draw(4) == 0 ? 2 + draw(same - 1) : same;
                    b.append(many).append(spots[i]);
                    i += many - 1;
                }
            }
            int n = put(spoil(b.toString(), ".#/a2b8c37j1k90"));
            due("quarter", real.quarter(n), plain.quarter(n), n);
            for (int spot = 0; spot < 64; spot++) {
                due("count", real.count(100 + spot), plain.count(100 + spot), 100 + spot);
            }
        }

        String steps(int open, int many) {
            StringBuilder b = new StringBuilder();
            for (int i = 0; i < many; i++) {
                if (draw(3) == 0) {
                    b.append(2 + draw(draw(3) == 0 ? 8 : 3));
                }
                if (draw(6) == 0 && open < 4) {
                    b.append('(').append(steps(open + 1, 1 + draw(3))).append(')');
                } else {
                    b.append("nesw.".charAt(draw(5)));
                }
            }
            return b.toString();
        }

        void walk() {
            int h = near(10);
            int n = put(spoil(steps(0, 1 + draw(draw(4) == 0 ? 24 : 10)), "nesw.()23459018x"));
            due("walk", real.walk(h, n), plain.walk(h, n), h, n);
            due("houseIs", real.houseIs(h, 1), plain.houseIs(h, 1), h, 1);
        }

        String number() {
            int kind = draw(12);
            return kind == 0 ? "" + draw(100000) : kind == 1 ? "0" + draw(100) : "" + draw(13);
        }

        String factor(int open) {
            if (draw(7) == 0 && open < 8) {
                return "[" + sum(open + 1) + "]";
            }
            return draw(5) < 2 ? number() : "" + "hjgabktdwo".charAt(draw(10));
        }

        String sum(int open) {
            StringBuilder b = new StringBuilder(factor(open));
            int many = draw(3) == 0 ? 1 + draw(2) : 0;
            for (int i = 0; i < many; i++) {
                b.append("+-*/%".charAt(draw(5))).append(factor(open));
            }
            return b.toString();
        }

        String piece(int open) {
            int kind = draw(12);
            if (kind == 0 && open < 8) {
                return "!" + piece(open + 1);
            }
            if (kind == 1 && open < 8) {
                return "(" + condition(open + 1) + ")";
            }
            return kind < 5 ? "1=1" : sum(open) + "<>=".charAt(draw(3)) + sum(open);
        }

        String condition(int open) {
            StringBuilder b = new StringBuilder(piece(open));
            int many = draw(3) == 0 ? 1 + draw(2) : 0;
            for (int i = 0; i < many; i++) {
                b.append("&|".charAt(draw(2))).append(piece(open));
            }
            return b.toString();
        }

        String deep(int open) {
            StringBuilder head = new StringBuilder();
            String end = "";
            for (int i = 0; i < open; i++) {
                if (draw(2) == 0) {
                    head.append('!');
                } else {
                    head.append('(');
                    end += ")";
                }
            }
            int more = draw(3);
            return "f" + repeat("[", draw(8)) + "5(" + head + repeat("[", more) + "1=2" + end + ")";
        }

        String lawText() {
            StringBuilder b = new StringBuilder();
            int many = draw(12) == 0 ? 15 + draw(4) : 1 + draw(8);
            for (int i = 0; i < many; i++) {
                char letter = "fffccrrrm".charAt(draw(9));
                String clause = letter == 'm' ? "m(" : letter + sum(0) + "(";
                clause += (many > 14 ? "1=1" : condition(1)) + ")";
                if (b.length() + clause.length() > 200) {
                    break;
                }
                b.append(i == 0 ? "" : ";").append(clause);
            }
            if (draw(6) != 0) {
                b.append(b.length() == 0 ? "" : ";").append("f" + (1 + draw(9)) + "+b/" + (2 + draw(9)) + "(1=1)");
                b.append(";c" + draw(40) + "+b*t(1=1)");
            }
            return b.length() == 0 ? "m(1=1)" : b.toString();
        }

        void law() {
            String text = draw(15) == 0 ? deep(3 + draw(4)) : lawText();
            text = spoil(text, "fcmr();&|!<>=+-*/%[]0123456789hjgabktdwo");
            int n = put(text.length() > 240 ? text.substring(0, 240) : text);
            due("law", real.law(n), plain.law(n), n);
            due("count", real.count(5), plain.count(5), 5);
        }

        void stranger() {
            int g = near(10);
            int sx = near(8);
            int sy = near(8);
            int courage = draw(12) == 0 ? draw(2) * 1000 : 1 + draw(draw(4) == 0 ? 999 : 60);
            due("stranger", real.stranger(g, sx, sy, courage), plain.stranger(g, sx, sy, courage), g, sx, sy, courage);
        }

        void dog() {
            int h = near(10);
            boolean has = draw(4) != 0;
            due("dog", real.dog(h, has), plain.dog(h, has), h, has ? 1 : 0);
        }

        /** Bits, mostly of houses with spots. */
        int houses() {
            int kind = draw(14);
            return kind == 0 ? near(1024) : kind < 3 ? draw(1024) : draw(1024) & plain.withSpots();
        }

        int house() {
            int h = near(10);
            for (int i = 0; i < 5 && !plain.hasSpot(h); i++) {
                h = near(10);
            }
            return h;
        }

        void step() {
            switch (draw(36)) {
                case 0:
                    if (draw(4) == 0) {
                        quarter();
                    }
                    break;
                case 1:
                    walk();
                    break;
                case 2:
                    law();
                    break;
                case 3:
                case 4:
                    stranger();
                    break;
                case 5:
                    dog();
                    break;
                case 6: {
                    int h = near(10);
                    due("tells", real.tells(h), plain.tells(h), h);
                    break;
                }
                case 7:
                case 34:
                case 35: {
                    int h = house();
                    due("haunts", real.haunts(h), plain.haunts(h), h);
                    for (int g = 0; g < 10; g++) {
                        due("strangerIs", real.strangerIs(g, 1), plain.strangerIs(g, 1), g, 1);
                    }
                    break;
                }
                case 8:
                case 9: {
                    int h = house();
                    for (int what = -1; what < 82; what++) {
                        due("tried", real.tried(h, what), plain.tried(h, what), h, what);
                    }
                    break;
                }
                case 10: {
                    int g = near(10);
                    for (int what = -1; what < 6; what++) {
                        due("strangerIs", real.strangerIs(g, what), plain.strangerIs(g, what), g, what);
                    }
                    break;
                }
                case 11: {
                    int h = near(10);
                    for (int what = -1; what < 6; what++) {
                        due("houseIs", real.houseIs(h, what), plain.houseIs(h, what), h, what);
                    }
                    break;
                }
                case 12:
                case 13: {
                    int h = house();
                    int j = house();
                    for (int what = -1; what < 4; what++) {
                        due("meet", real.meet(h, j, what), plain.meet(h, j, what), h, j, what);
                    }
                    break;
                }
                case 14: {
                    int h = house();
                    int m = draw(5) == 0 ? draw(43) : 1 + draw(5);
                    int what = near(2);
                    due("dread", real.dread(h, m, what), plain.dread(h, m, what), h, m, what);
                    due("dread", real.dread(h, m, 1), plain.dread(h, m, 1), h, m, 1);
                    break;
                }
                case 15:
                case 16: {
                    int h = house();
                    int spot = near(64);
                    int what = near(2);
                    due("unseen", real.unseen(h, spot, what), plain.unseen(h, spot, what), h, spot, what);
                    due("unseen", real.unseen(h, spot, 1), plain.unseen(h, spot, 1), h, spot, 1);
                    break;
                }
                case 17: {
                    int what = near(2);
                    due("watch", real.watch(what), plain.watch(what), what);
                    break;
                }
                case 18: {
                    int g = near(10);
                    int what = near(2);
                    due("feared", real.feared(g, what), plain.feared(g, what), g, what);
                    due("feared", real.feared(g, 0), plain.feared(g, 0), g, 0);
                    break;
                }
                case 19:
                case 20:
                case 21:
                    sightings();
                    break;
                case 22:
                case 23:
                    rotas();
                    break;
                case 24: {
                    int houses = houses();
                    int n = 1 + near(20);
                    due("goes", real.goes(houses, n), plain.goes(houses, n), houses, n);
                    due("count", real.count(7), plain.count(7), 7);
                    break;
                }
                case 25: {
                    int houses = houses();
                    int h = house();
                    int what = near(2);
                    due("odds", real.odds(houses, h, what), plain.odds(houses, h, what), houses, h, what);
                    due("odds", real.odds(houses, h, 1), plain.odds(houses, h, 1), houses, h, 1);
                    break;
                }
                case 26: {
                    int houses = houses();
                    due("watered", real.watered(houses), plain.watered(houses), houses);
                    break;
                }
                case 27:
                    tax();
                    break;
                case 28: {
                    int h = near(10);
                    int marks = near(256);
                    due("hand", real.hand(h, marks), plain.hand(h, marks), h, marks);
                    break;
                }
                case 29: {
                    int marks = near(256);
                    int blurred = draw(4) == 0 ? near(256) : 255 & ~(1 << draw(8));
                    int houses = near(1024);
                    int what = near(2);
                    due("ledger", real.ledger(marks, blurred, houses, what),
                        plain.ledger(marks, blurred, houses, what), marks, blurred, houses, what);
                    due("ledger", real.ledger(marks, blurred, houses, 1),
                        plain.ledger(marks, blurred, houses, 1), marks, blurred, houses, 1);
                    break;
                }
                case 30: {
                    int seed = near(65536);
                    due("seed", real.seed(seed), plain.seed(seed), seed);
                    break;
                }
                case 31:
                    if (draw(2) == 0) {
                        due("keep", real.keep(), plain.keep());
                    } else {
                        due("undo", real.undo(), plain.undo());
                    }
                    break;
                case 32:
                    check();
                    break;
                default: {
                    int what = draw(3) == 0 ? near(170) : near(8);
                    due("count", real.count(what), plain.count(what), what);
                    break;
                }
            }
        }

        void sightings() {
            int n = 1 + draw(10);
            byte[] bytes = new byte[2 * n];
            int minute = draw(4) == 0 ? draw(256) : draw(12);
            for (int i = 0; i < n; i++) {
                int spot = draw(64);
                for (int j = 0; j < 9 && plain.at(spot) == '#'; j++) {
                    spot = draw(64);
                }
                bytes[2 * i] = (byte) Math.min(255, minute);
                bytes[2 * i + 1] = (byte) (draw(60) == 0 ? draw(256) : spot);
                minute += draw(4) * draw(4) - (draw(50) == 0 ? 1 : 0);
                minute = Math.max(0, minute);
            }
            clearTape();
            feed(bytes);
            int told = draw(20) == 0 ? near(12) : n;
            int what = near(2);
            due("sightings", real.sightings(told, what), plain.sightings(told, what), told, what);
        }

        void rotas() {
            int houses = houses();
            int k = 1 + near(3);
            int n = draw(4) == 0 ? near(16) : 1 + draw(8);
            if (Integer.bitCount(houses) > 3 && n > 8) {
                n = 8;
            }
            for (int what : new int[] {100, 101, 0, near(15), -1, 99, 102, n}) {
                due("rotas", real.rotas(n, houses, k, what), plain.rotas(n, houses, k, what), n, houses, k, what);
            }
        }

        void tax() {
            byte[] bytes = new byte[10];
            for (int i = 0; i < 10; i++) {
                bytes[i] = (byte) (draw(3) == 0 ? 0 : draw(60) == 0 ? draw(256) : draw(100));
            }
            if (draw(20) == 0) {
                Arrays.fill(bytes, (byte) 0);
            }
            clearTape();
            if (draw(20) != 0) {
                feed(bytes);
            }
            int h = near(10);
            due("tax", real.tax(h), plain.tax(h), h);
        }

        void check() {
            byte[] bytes = new byte[40];
            for (int g = 0; g < 10; g++) {
                int fear = plain.people[g] == null ? 0 : plain.people[g].fear;
                fear = draw(12) == 0 ? random.nextInt() : fear;
                for (int j = 0; j < 4; j++) {
                    bytes[4 * g + j] = (byte) (fear >> 24 - 8 * j);
                }
            }
            clearTape();
            feed(bytes);
            int n = near(11);
            due("check", real.check(n), plain.check(n), n);
            due("count", real.count(6), plain.count(6), 6);
        }
    }
}
