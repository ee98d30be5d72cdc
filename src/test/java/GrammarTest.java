import java.util.ArrayList;
import java.util.HashMap;
import java.util.LinkedHashSet;
import java.util.List;
import java.util.Map;
import java.util.Random;
import java.util.Set;

/**
 * Texts held against the document's languages written out as rules. Each language stands here twice:
 * without bounds (what can't come next there is FAULT 1) and with the bounds that have a FAULT of
 * their own. All short texts behind some beginnings are asked, and drawn long ones.
 */
public final class GrammarTest {
    private static final int LONG_TEXTS = 400;
    private static int wrong = 0;
    private static int texts = 0;

    public static void main(String[] args) {
        quarters();
        walks();
        laws();
        System.out.println(texts + " texts, " + wrong + " answers are not as due");
        if (wrong != 0) {
            System.exit(1);
        }
    }

    // ---- rules, and which signs can come next by them ----

    /** Rules "X = A B | C", a name or a sign each; none of them empty. */
    private static final class Rules {
        final Map<String, List<String[]>> of = new HashMap<>();
        final String first;

        Rules(String first) {
            this.first = first;
        }

        void add(String name, String... ways) {
            for (String way : ways) {
                of.computeIfAbsent(name, n -> new ArrayList<>()).add(way.split(" "));
            }
        }
    }

    private static final class Item {
        final String name;
        final String[] way;
        final int done;
        final int from;

        Item(String name, String[] way, int done, int from) {
            this.name = name;
            this.way = way;
            this.done = done;
            this.from = from;
        }

        String next() {
            return done < way.length ? way[done] : "";
        }

        Item further() {
            return new Item(name, way, done + 1, from);
        }

        @Override
        public boolean equals(Object o) {
            Item i = (Item) o;
            return name.equals(i.name) && way == i.way && done == i.done && from == i.from;
        }

        @Override
        public int hashCode() {
            return (name.hashCode() * 31 + System.identityHashCode(way)) * 31 + done * 7919 + from;
        }
    }

    /** Earley's way: for each place the rules that can be under way there. */
    private static final class Reader {
        final Rules rules;
        final List<List<Item>> places = new ArrayList<>();

        Reader(Rules rules) {
            this.rules = rules;
            Set<Item> start = new LinkedHashSet<>();
            open(rules.first, 0, start);
            places.add(close(start));
        }

        private void open(String name, int place, Set<Item> to) {
            for (String[] way : rules.of.get(name)) {
                to.add(new Item(name, way, 0, place));
            }
        }

        private List<Item> close(Set<Item> start) {
            int place = places.size();
            List<Item> all = new ArrayList<>(start);
            Set<Item> known = new LinkedHashSet<>(start);
            for (int i = 0; i < all.size(); i++) {
                Item item = all.get(i);
                Set<Item> more = new LinkedHashSet<>();
                if (item.next().isEmpty()) {
                    for (Item over : places.get(item.from)) {
                        if (over.next().equals(item.name)) {
                            more.add(over.further());
                        }
                    }
                } else if (rules.of.containsKey(item.next())) {
                    open(item.next(), place, more);
                }
                for (Item m : more) {
                    if (known.add(m)) {
                        all.add(m);
                    }
                }
            }
            return all;
        }

        /** Whether that sign can come next; then it has come. */
        boolean take(String sign) {
            Set<Item> start = new LinkedHashSet<>();
            for (Item item : places.get(places.size() - 1)) {
                if (item.next().equals(sign)) {
                    start.add(item.further());
                }
            }
            if (start.isEmpty()) {
                return false;
            }
            places.add(close(start));
            return true;
        }

        void back() {
            places.remove(places.size() - 1);
        }

        boolean canEnd() {
            for (Item item : places.get(places.size() - 1)) {
                if (item.from == 0 && item.next().isEmpty() && item.name.equals(rules.first)) {
                    return true;
                }
            }
            return false;
        }
    }

    // ---- texts ----

    private abstract static class Language {
        final Reader free;
        final Reader bound;
        final StringBuilder text = new StringBuilder();
        final String signs;
        final int longest;
        GhostQuarter quarter = new GhostQuarter();
        int calls = 0;

        Language(Rules free, Rules bound, String signs, int longest) {
            this.free = new Reader(free);
            this.bound = new Reader(bound);
            this.signs = signs;
            this.longest = longest;
        }

        /** The rules' name for a sign. */
        abstract String kind(char sign);

        /** What the class says of a text of n bytes on the tape. */
        abstract int read(int n);

        /** What is due to a text without a FAULT. */
        abstract int worth(String whole);

        /** The FAULT of a sign that the bounds alone rule out. */
        abstract int boundFault(char sign);

        /** A FAULT that the rules don't tell, or 0, of a text whose last sign can stand there. */
        abstract int otherFault(String begun);

        void ask(String whole, int want) {
            if (calls > 480) {
                quarter = new GhostQuarter();
                calls = 0;
            }
            Rows.tape(quarter, whole);
            int got = read(whole.length());
            calls += 2 + (whole.length() + 19) / 20;
            texts++;
            if (got != want && wrong < 20) {
                System.out.println(getClass().getSimpleName() + " " + whole + ": answered " + got + ", due is " + want);
            }
            wrong += got != want ? 1 : 0;
        }

        /** Whether the text can go on with that sign; then it does. If not, its FAULT is asked. */
        boolean goOn(char sign, String behind) {
            int fault = 0;
            int place = text.length();
            if (!free.take(kind(sign))) {
                fault = -1000 - place;
            } else if (!bound.take(kind(sign))) {
                free.back();
                fault = -1000 * boundFault(sign) - place;
            } else {
                fault = otherFault(text.toString() + sign);
                if (fault < 0) {
                    free.back();
                    bound.back();
                }
            }
            if (fault < 0) {
                String whole = text.toString() + sign + behind;
                ask(whole.substring(0, Math.min(whole.length(), longest)), fault);
                return false;
            }
            text.append(sign);
            return true;
        }

        void back() {
            free.back();
            bound.back();
            text.setLength(text.length() - 1);
        }

        void askItsEnd() {
            String whole = text.toString();
            ask(whole, bound.canEnd() ? worth(whole) : -1000 - whole.length());
        }

        void begin(String beginning) {
            while (text.length() > 0) {
                back();
            }
            for (char sign : beginning.toCharArray()) {
                if (!goOn(sign, "")) {
                    throw new IllegalStateException("no beginning: " + beginning);
                }
            }
        }

        /** All texts that have up to so many signs more. */
        void all(int more) {
            if (text.length() > 0) {
                askItsEnd();
            }
            for (int i = 0; i < signs.length() && more > 0 && text.length() < longest; i++) {
                if (goOn(signs.charAt(i), "")) {
                    all(more - 1);
                    back();
                }
            }
        }

        /** A drawn text, up to the longest one. */
        void drawn(Random random) {
            begin("");
            int end = 1 + random.nextInt(longest);
            for (int tries = 0; tries < 4000 && text.length() < end; tries++) {
                char sign = signs.charAt(random.nextInt(signs.length()));
                if (random.nextInt(3) == 0) {
                    sign = (char) random.nextInt(256);
                }
                if (goOn(sign, "" + signs.charAt(random.nextInt(signs.length()))) && random.nextInt(8) == 0) {
                    askItsEnd();
                }
            }
            if (text.length() > 0) {
                askItsEnd();
            }
        }

        void drawnOnes(int seed) {
            for (int i = 0; i < LONG_TEXTS; i++) {
                drawn(new Random(1000 * seed + i));
            }
        }
    }

    // ---- THE QUARTER ----

    private static String join(String... signs) {
        return String.join(" ", signs);
    }

    /** Row8 has 8 spots, or 8 and more of them. */
    private static Rules quarterRules(boolean isBound) {
        Rules rules = new Rules("Rows8");
        for (int y = 1; y <= 8; y++) {
            rules.add("Rows" + y, y == 1 ? "Row8" : "Row8 / Rows" + (y - 1));
        }
        rules.add("Some", "Spot", "Spot Some");
        for (int many = 2; many <= 8; many++) {
            rules.add("Some", many + " .", many + " . Some");
        }
        for (int left = 1; left <= 8; left++) {
            for (int many = 1; many <= 8; many++) {
                String spots = many == 1 ? "Spot" : many + " .";
                if (many < left) {
                    rules.add("Row" + left, join(spots, "Row" + (left - many)));
                } else if (many == left || !isBound) {
                    rules.add("Row" + left, spots);
                    if (!isBound) {
                        rules.add("Row" + left, join(spots, "Some"));
                    }
                }
            }
        }
        rules.add("Spot", ".", "a");
        return rules;
    }

    private static final class Quarters extends Language {
        Quarters() {
            super(quarterRules(false), quarterRules(true), ".#2783ab/j1k", 120);
        }

        @Override
        String kind(char sign) {
            return sign == '#' ? "." : sign >= 'a' && sign <= 'j' ? "a" : sign == 'S' ? "?" : "" + sign;
        }

        @Override
        int read(int n) {
            return quarter.quarter(n);
        }

        @Override
        int worth(String whole) {
            return whole.replaceAll("[^a-j]", "").length();
        }

        @Override
        int boundFault(char sign) {
            return 6;
        }

        @Override
        int otherFault(String begun) {
            int last = begun.length() - 1;
            boolean twice = begun.charAt(last) >= 'a' && begun.indexOf(begun.charAt(last)) < last;
            return twice ? -7000 - last : 0;
        }
    }

    private static void quarters() {
        Quarters quarters = new Quarters();
        quarters.all(5);
        for (String beginning : new String[] {"6.", "a6#", "8./8./8./8./8./8./8./", "8./8./8./8./8./8./8./7#",
            "8./8./8./8./8./8./8./......", "3.a4./8#", "abcdefgh/ij6", "........"}) {
            quarters.begin(beginning);
            quarters.all(4);
        }
        quarters.drawnOnes(1);
    }

    // ---- WALKS ----

    private static Rules walkRules(boolean isBound) {
        Rules rules = new Rules("Walk0");
        for (int open = 0; open <= (isBound ? 3 : 0); open++) {
            String name = "Walk" + open;
            rules.add(name, "Step" + open, name + " Step" + open);
            rules.add("Step" + open, "n", "2 n");
            if (!isBound || open < 3) {
                String inner = "Walk" + (isBound ? open + 1 : 0);
                rules.add("Step" + open, "( " + inner + " )", "2 ( " + inner + " )");
            }
        }
        return rules;
    }

    private static final class Walkers extends Language {
        Walkers() {
            super(walkRules(false), walkRules(true), "ne29()s5w.13x", 80);
        }

        @Override
        String kind(char sign) {
            return sign > 0 && "nesw.".indexOf(sign) >= 0 ? "n" : sign >= '2' && sign <= '9' ? "2" : "" + sign;
        }

        @Override
        int read(int n) {
            return quarter.walk(3, n);
        }

        @Override
        int worth(String whole) {
            return written(whole).length();
        }

        @Override
        int boundFault(char sign) {
            return 5;
        }

        @Override
        int otherFault(String begun) {
            int last = begun.length() - 1;
            if (kind(begun.charAt(last)).equals("2") || written(begun).length() <= 60) {
                return 0;
            }
            int first = last;
            if (begun.charAt(last) == ')') {
                for (int open = 1; open > 0; ) {
                    first--;
                    open += begun.charAt(first) == ')' ? 1 : begun.charAt(first) == '(' ? -1 : 0;
                }
            }
            boolean digit = first > 0 && kind(begun.charAt(first - 1)).equals("2");
            return -6000 - (digit ? first - 1 : first);
        }

        /** The STEPS that are over, each written out; what is open stands there once. */
        private static String written(String text) {
            String now = text.replace(".", "p");
            for (String before = ""; !before.equals(now); ) {
                before = now;
                for (int many = 9; many >= 2; many--) {
                    now = now.replaceAll(many + "([nespw])", "$1".repeat(many));
                    now = now.replaceAll(many + "\\(([nespw]+)\\)", "$1".repeat(many));
                }
                now = now.replaceAll("(^|[^2-9])\\(([nespw]+)\\)", "$1$2");
            }
            return now.replaceAll("[^nespw]", "");
        }
    }

    private static void walks() {
        Walkers walks = new Walkers();
        walks.all(5);
        for (String beginning : new String[] {"(((", "3(n2((", "((n)2(e)", "6(9n)", "9n9n9n9n9n9n", "7(8n)", "2(3(9n)",
            "9(", "2(9e9e9e", "5(6(2s))", "2((9n9n9n)n"}) {
            walks.begin(beginning);
            walks.all(4);
        }
        walks.drawnOnes(2);
    }

    // ---- THE LAW ----

    private static Rules lawRules(boolean isBound) {
        int most = isBound ? 16 : 1;
        Rules rules = new Rules("Law");
        rules.add("Law", "Law" + most);
        if (isBound) {
            // a ; may stand behind the 16th CLAUSE, but no letter behind it
            rules.add("Law", "Law" + most + " ; nothing");
        }
        for (int i = 1; i <= most; i++) {
            rules.add("Law" + i, "Clause");
            if (i > 1 || !isBound) {
                rules.add("Law" + i, "Law" + (isBound ? i - 1 : i) + " ; Clause");
            }
        }
        rules.add("Clause", isBound ? "f E0 ( C1 )" : "f E0 ( C0 )", isBound ? "m ( C1 )" : "m ( C0 )");
        for (int open = 0; open <= (isBound ? 6 : 0); open++) {
            String c = "C" + open;
            String e = "E" + open;
            rules.add(c, "Part" + open, c + " | Part" + open);
            rules.add("Part" + open, "Piece" + open, "Part" + open + " & Piece" + open);
            rules.add("Piece" + open, e + " < " + e, e + " > " + e, e + " = " + e);
            rules.add(e, "T" + open, e + " + T" + open, e + " - T" + open);
            String f = "F" + open;
            rules.add("T" + open, f, "T" + open + " * " + f, "T" + open + " / " + f, "T" + open + " % " + f);
            rules.add(f, "h", "Number");
            if (!isBound || open < 6) {
                int further = isBound ? open + 1 : 0;
                rules.add("Piece" + open, "! Piece" + further, "( C" + further + " )");
                rules.add(f, "[ E" + further + " ]");
            }
        }
        if (isBound) {
            rules.add("Number", "0", "0 0", "0 0 0", "0 0 0 0", "0 0 0 0 0");
        } else {
            rules.add("Number", "0", "Number 0");
        }
        return rules;
    }

    private static final class Laws extends Language {
        Laws() {
            super(lawRules(false), lawRules(true), "1f(h)=m![]+*|&;x", 240);
        }

        @Override
        String kind(char sign) {
            if (sign >= '0' && sign <= '9') {
                return "0";
            }
            if (sign > 0 && "hjgabktdwo".indexOf(sign) >= 0) {
                return "h";
            }
            return sign == 'c' || sign == 'r' ? "f" : "" + sign;
        }

        @Override
        int read(int n) {
            return quarter.law(n);
        }

        @Override
        int worth(String whole) {
            return 1 + whole.replaceAll("[^;]", "").length();
        }

        @Override
        int boundFault(char sign) {
            boolean letter = sign == 'f' || sign == 'c' || sign == 'r' || sign == 'm';
            return letter ? 4 : sign == '(' || sign == '[' || sign == '!' ? 5 : 2;
        }

        @Override
        int otherFault(String begun) {
            return 0;
        }
    }

    private static void laws() {
        Laws laws = new Laws();
        laws.all(5);
        for (String beginning : new String[] {"f1(", "m(!", "m((h", "m(1=1", "f1(1=1", "c[[[[[", "f[[[[[[1]", "m((!([[",
            "m(!!!!", "m(!!!!!1", "m(((((1=1)", "m(([[[1", "f1(!h=1&", "r99999", "m(12345", "m(1=1);", "f[h]%[1",
            "m(!!h=1|!!!!", "m(!(!(1=[", "m(1=1|!(1=1)&",
            Rows.times("m(1=1);", 15) + "m(1=1)", Rows.times("f1(1=1);", 14) + "m(1=1);c2(1=1)"}) {
            laws.begin(beginning);
            laws.all(3);
        }
        laws.drawnOnes(3);
    }
}
