/** An old quarter, its ghosts, the strangers who fear them, and the rumours about them. */
public final class GhostQuarter {
    public static final int NONE = -1;

    private static final int NOT_SO = -2;
    private static final int HOUSES = 10;
    private static final int ALL_HOUSES = 1023;
    private static final int STRANGERS = 10;
    private static final int SIDE = 8;
    private static final int SPOTS = 64;
    private static final int LANE = 0;
    private static final int WALL = 1;
    private static final int FIRST_HOUSE = 2;
    private static final int MOST_STEPS = 60;
    private static final int MOST_FEAR = 999;
    private static final int LAST_NIGHT = 9999;
    private static final int MARKS = 8;
    private static final int ALL_MARKS = 255;
    private static final int TENTHS = 10;

    private static final int MOST_TAPE = 260;
    private static final int FED = 20;
    private static final int QUARTER_TEXT = 120;
    private static final int WALK_TEXT = 80;
    private static final int LAW_TEXT = 240;

    /** The numbers of the STEPS: north, east, south, west, stay. */
    private static final int STAY = 4;
    private static final int[] STEP_X = {0, 1, 0, -1, 0};
    private static final int[] STEP_Y = {1, 0, -1, 0, 0};

    private final Tape tape = new Tape();
    private final Walks walks = new Walks();
    private final LawReader lawReader = new LawReader();
    private final Night night = new Night();
    private final Paths paths = new Paths();
    private final Sightings seenSpots = new Sightings();
    private final Rotas rotaTable = new Rotas();
    private final Times now = new Times();
    private final Times kept = new Times();
    private final int[] hands = new int[HOUSES];
    private Town town = new Town();
    private Town spareTown = new Town();
    private Law rules = new Law();
    private Law spareRules = new Law();
    private boolean wasKept = false;
    private int dogs = 0;

    public GhostQuarter() {
    }

    public int feed(int a, int b, int c, int d, int e) {
        if (tape.size + FED > MOST_TAPE) {
            return NONE;
        }
        tape.add(a);
        tape.add(b);
        tape.add(c);
        tape.add(d);
        tape.add(e);
        return tape.size;
    }

    public int quarter(int n) {
        if (!tape.hasText(n, QUARTER_TEXT)) {
            return NONE;
        }
        int told = spareTown.read(tape, n);
        tape.empty();
        if (told >= 0) {
            Town before = town;
            town = spareTown;
            spareTown = before;
            now.dropFromWalls(town);
        }
        return told;
    }

    public int walk(int h, int n) {
        if (!isHouse(h) || !tape.hasText(n, WALK_TEXT)) {
            return NONE;
        }
        int told = walks.read(tape, n, h);
        tape.empty();
        return told;
    }

    public int law(int n) {
        if (!tape.hasText(n, LAW_TEXT)) {
            return NONE;
        }
        int told = lawReader.read(tape, n, spareRules);
        tape.empty();
        if (told >= 0) {
            Law before = rules;
            rules = spareRules;
            spareRules = before;
        }
        return told;
    }

    public boolean stranger(int g, int x, int y, int courage) {
        if (!isStranger(g) || !isIn(x, 0, SIDE - 1) || !isIn(y, 0, SIDE - 1)) {
            return false;
        }
        int spot = SIDE * y + x;
        if (!isIn(courage, 1, MOST_FEAR) || town.isWall(spot)) {
            return false;
        }
        now.putStranger(g, spot, courage);
        return true;
    }

    public boolean dog(int h, boolean has) {
        if (!isHouse(h)) {
            return false;
        }
        int bit = 1 << h;
        dogs = has ? dogs | bit : dogs & ~bit;
        now.toldDogs &= ~bit;
        return true;
    }

    public boolean tells(int h) {
        if (!isHouse(h) || !hasBit(dogs, h) || hasBit(now.toldDogs, h)) {
            return false;
        }
        now.toldDogs |= 1 << h;
        return true;
    }

    public int haunts(int h) {
        if (!hasSpot(h) || now.night >= LAST_NIGHT) {
            return NONE;
        }
        if (!rules.mayHaunt(h, now.night)) {
            return NOT_SO;
        }
        night.pass(town, walks, rules, now, h, dogsAgainst(h));
        now.copy(night.end);
        now.night++;
        return night.coins;
    }

    public int tried(int h, int what) {
        if (!hasSpot(h)) {
            return NONE;
        }
        night.pass(town, walks, rules, now, h, dogsAgainst(h));
        switch (what) {
            case 0:
                return night.coins;
            case 1:
                return night.payers;
            case 2:
                return night.barks;
            case 3:
                return night.seen;
            case 4:
                return night.path[night.last];
            case 5:
                return night.growth;
            default:
                return triedFurther(what);
        }
    }

    public int strangerIs(int g, int what) {
        if (!isStranger(g) || !now.isTold(g)) {
            return NONE;
        }
        switch (what) {
            case 0:
                return now.spot[g];
            case 1:
                return now.fear[g];
            case 2:
                return now.courage[g];
            case 3:
                return now.paid[g];
            case 4:
                return now.paid[g] == 1 ? 0 : town.housesSeenFrom(now.spot[g]);
            default:
                return NONE;
        }
    }

    public int houseIs(int h, int what) {
        if (!isHouse(h)) {
            return NONE;
        }
        switch (what) {
            case 0:
                return town.home[h] == NONE ? NOT_SO : town.home[h];
            case 1:
                return walks.length[h];
            case 2:
                return dogOf(h);
            case 3:
                return canHaunt(h) ? 1 : 0;
            case 4:
                return hands[h];
            default:
                return NONE;
        }
    }

    public int meet(int h, int j, int what) {
        if (!hasSpot(h) || !hasSpot(j) || h == j || !isIn(what, 0, 2)) {
            return NONE;
        }
        int minute = walks.meeting(town, h, j);
        if (minute == NOT_SO || what == 0) {
            return minute;
        }
        return what == 1 ? walks.oneIn(h, minute) : walks.otherIn(j, minute);
    }

    public int dread(int h, int m, int what) {
        if (!hasSpot(h) || !isIn(m, 1, Paths.DREAD_MINUTES) || !isIn(what, 0, 1)) {
            return NONE;
        }
        paths.frighten(town, rules, now, h, m);
        return what == 0 ? paths.most : paths.end;
    }

    public int unseen(int h, int spot, int what) {
        if (!hasSpot(h) || !isIn(spot, 0, SPOTS - 1) || !isIn(what, 0, 1)) {
            return NONE;
        }
        int cost = paths.hide(town, now, town.home[h], spot);
        if (cost == NONE) {
            return NOT_SO;
        }
        return what == 0 ? cost / Paths.SEEN_COST : cost % Paths.SEEN_COST;
    }

    public int watch(int what) {
        if (!isIn(what, 0, 1)) {
            return NONE;
        }
        paths.lookOut(town, walks);
        if (paths.end == NONE) {
            return NOT_SO;
        }
        return what == 0 ? paths.end : paths.most;
    }

    public int feared(int g, int what) {
        if (!isStranger(g) || !now.isTold(g) || !isIn(what, 0, 1)) {
            return NONE;
        }
        int house = NOT_SO;
        int most = 0;
        for (int h = 0; h < HOUSES; h++) {
            if (hasSpot(h)) {
                night.pass(town, walks, rules, now, h, dogsAgainst(h));
                int growth = night.end.fear[g] - now.fear[g];
                if (growth > most) {
                    most = growth;
                    house = h;
                }
            }
        }
        return what == 0 ? house : most;
    }

    public int sightings(int n, int what) {
        if (!isIn(n, 1, Sightings.MOST) || !isIn(what, 0, 1) || tape.size < 2 * n) {
            return NONE;
        }
        boolean stand = seenSpots.read(tape, n, town);
        tape.empty();
        if (!stand) {
            return NOT_SO;
        }
        seenSpots.link(town, paths);
        return what == 0 ? seenSpots.fewestGhosts() : seenSpots.fromWhere(town, paths);
    }

    public int rotas(int n, int houses, int k, int what) {
        if (!isIn(n, 1, Rotas.MOST_NIGHTS) || !isIn(k, 1, Rotas.MOST_EACH) || !canShare(houses)) {
            return NONE;
        }
        boolean ofRow = isIn(what, 0, n - 1);
        if (!ofRow && what != Rotas.HOW_MANY && what != Rotas.HOW_EVEN) {
            return NONE;
        }
        if (now.night + n > LAST_NIGHT) {
            return NONE;
        }
        rotaTable.plan(rules, now.night, n, houses, k);
        if (what == Rotas.HOW_MANY) {
            return rotaTable.howMany();
        }
        if (rotaTable.howMany() == 0) {
            return NOT_SO;
        }
        return ofRow ? rotaTable.houseIn(what) : rotaTable.howEven();
    }

    public int goes(int houses, int n) {
        if (!isIn(houses, 0, ALL_HOUSES) || !isIn(n, 1, Rumour.MOST_DAYS)) {
            return NONE;
        }
        int knows = houses & town.housesWithSpots();
        for (int day = 0; day < n; day++) {
            knows = Rumour.pass(town, rules, now, knows);
        }
        return knows;
    }

    public long odds(int houses, int h, int what) {
        if (!isIn(houses, 0, ALL_HOUSES) || !hasSpot(h) || hasBit(houses, h) || !isIn(what, 0, 1)) {
            return NONE;
        }
        int knows = houses & town.housesWithSpots();
        long below = Rumour.allDraws(knows);
        long above = Rumour.drawsThatTell(town, rules, now.night, knows, h);
        long common = Rumour.commonDivisor(below, above);
        if (common == 0) {
            return NONE;
        }
        return what == 0 ? above / common : below / common;
    }

    public int watered(int houses) {
        if (!isIn(houses, 0, ALL_HOUSES)) {
            return NONE;
        }
        int spots = town.housesWithSpots();
        int best = NOT_SO;
        long most = -1;
        for (int h = 0; h < HOUSES; h++) {
            if (hasBit(spots & ~houses, h)) {
                long sum = Rumour.drawsInAll(town, rules, now.night, (houses & spots) | 1 << h);
                if (sum > most) {
                    most = sum;
                    best = h;
                }
            }
        }
        return best;
    }

    public int tax(int h) {
        if (!isHouse(h) || tape.size < HOUSES) {
            return NONE;
        }
        int share = taxShare(h);
        tape.empty();
        return share;
    }

    public boolean hand(int h, int marks) {
        if (!isHouse(h) || !isIn(marks, 0, ALL_MARKS)) {
            return false;
        }
        hands[h] = marks;
        return true;
    }

    public int ledger(int marks, int blurred, int houses, int what) {
        if (!isIn(marks, 0, ALL_MARKS) || !isIn(blurred, 0, ALL_MARKS)) {
            return NONE;
        }
        if (!isIn(houses, 0, ALL_HOUSES) || !isIn(what, 0, 1)) {
            return NONE;
        }
        int fitting = housesThatFit(marks, blurred, houses);
        if (what == 0) {
            return fitting;
        }
        return fitting == 0 ? NOT_SO : markThatTells(fitting);
    }

    public boolean seed(int x) {
        if (!isIn(x, 0, Times.LAST_X)) {
            return false;
        }
        now.x = x;
        return true;
    }

    public int keep() {
        kept.copy(now);
        wasKept = true;
        return now.night;
    }

    public boolean undo() {
        if (wasKept) {
            now.copy(kept);
        }
        return wasKept;
    }

    public int check(int n) {
        if (!isIn(n, 0, STRANGERS) || tape.size < 4 * n) {
            return NOT_SO;
        }
        int wrong = NONE;
        for (int g = n - 1; g >= 0; g--) {
            if (tape.numberAt(4 * g) != now.fear[g]) {
                wrong = g;
            }
        }
        tape.empty();
        return wrong;
    }

    public int count(int what) {
        if (isIn(what, 100, 100 + SPOTS - 1)) {
            return town.at(what - 100);
        }
        switch (what) {
            case 0:
                return now.night;
            case 1:
                return now.coins;
            case 2:
                return now.toldStrangers();
            case 3:
                return now.paidStrangers();
            case 4:
                return town.housesWithSpots();
            case 5:
                return rules.clauses;
            case 6:
                return tape.size;
            case 7:
                return now.x;
            default:
                return NONE;
        }
    }

    private static boolean isIn(int number, int least, int most) {
        return number >= least && number <= most;
    }

    private static boolean hasBit(int bits, int place) {
        return (bits >> place & 1) == 1;
    }

    private static boolean isHouse(int h) {
        return isIn(h, 0, HOUSES - 1);
    }

    private static boolean isStranger(int g) {
        return isIn(g, 0, STRANGERS - 1);
    }

    private static int faultAt(int number, int place) {
        return -1000 * number - place;
    }

    private static int stepsBetween(int spot, int other) {
        int x = Math.abs(spot % SIDE - other % SIDE);
        int y = Math.abs(spot / SIDE - other / SIDE);
        return x + y;
    }

    private boolean hasSpot(int h) {
        return isHouse(h) && town.home[h] != NONE;
    }

    private boolean canHaunt(int h) {
        return hasSpot(h) && now.night < LAST_NIGHT && rules.mayHaunt(h, now.night);
    }

    /** 0 no dog, 1 a dog, 2 a dog that is told. */
    private int dogOf(int h) {
        if (!hasBit(dogs, h)) {
            return 0;
        }
        return hasBit(now.toldDogs, h) ? 2 : 1;
    }

    /** The dogs that can bark at that house's ghost. */
    private int dogsAgainst(int h) {
        return dogs & ~now.toldDogs & ~(1 << h);
    }

    private int triedFurther(int what) {
        int g = what - 10;
        if (isStranger(g)) {
            return now.isTold(g) ? night.payMinute[g] : NONE;
        }
        int minute = what - 20;
        return isIn(minute, 0, night.last) ? night.path[minute] : NONE;
    }

    private boolean canShare(int houses) {
        if (!isIn(houses, 1, ALL_HOUSES) || (houses & ~town.housesWithSpots()) != 0) {
            return false;
        }
        return Integer.bitCount(houses) <= Rotas.MOST_HOUSES;
    }

    private int taxShare(int h) {
        int nights = 0;
        for (int i = 0; i < HOUSES; i++) {
            if (tape.at(i) > 99) {
                return NOT_SO;
            }
            nights += tape.at(i);
        }
        if (nights <= 0) {
            return NOT_SO;
        }
        long left = now.coins;
        int ahead = 0;
        long rest = (long) now.coins * tape.at(h) % nights;
        for (int i = 0; i < HOUSES; i++) {
            long due = (long) now.coins * tape.at(i);
            left -= due / nights;
            if (due % nights > rest || due % nights == rest && i < h) {
                ahead++;
            }
        }
        int share = (int) ((long) now.coins * tape.at(h) / nights);
        return ahead < left ? share + 1 : share;
    }

    private int housesThatFit(int marks, int blurred, int houses) {
        int fitting = 0;
        for (int h = 0; h < HOUSES; h++) {
            if (hasBit(houses, h) && ((hands[h] ^ marks) & ~blurred & ALL_MARKS) == 0) {
                fitting |= 1 << h;
            }
        }
        return fitting;
    }

    private int markThatTells(int fitting) {
        int all = Integer.bitCount(fitting);
        int best = 0;
        int smallest = HOUSES + 1;
        for (int mark = 0; mark < MARKS; mark++) {
            int with = 0;
            for (int h = 0; h < HOUSES; h++) {
                if (hasBit(fitting, h) && hasBit(hands[h], mark)) {
                    with++;
                }
            }
            int greater = Math.max(with, all - with);
            if (greater < smallest) {
                smallest = greater;
                best = mark;
            }
        }
        return best;
    }

    /** The bytes that wait to be read. */
    private static final class Tape {
        static final int END = -1;

        final int[] bytes = new int[MOST_TAPE];
        int size = 0;

        void add(int number) {
            for (int shift = 24; shift >= 0; shift -= 8) {
                if (size < MOST_TAPE) {
                    bytes[size] = number >> shift & 255;
                    size++;
                }
            }
        }

        void empty() {
            size = 0;
        }

        boolean hasText(int n, int most) {
            return n >= 1 && n <= most && n <= size;
        }

        int at(int place) {
            return place >= 0 && place < size ? bytes[place] : END;
        }

        int numberAt(int place) {
            int number = 0;
            for (int i = 0; i < 4; i++) {
                number = number << 8 | at(place + i) & 255;
            }
            return number;
        }
    }

    /** The spots, where the houses stand, and what one sees from each spot. */
    private static final class Town {
        final int[] what = new int[SPOTS];
        final int[] home = new int[HOUSES];
        final long[] sight = new long[SPOTS];
        private int x = 0;
        private int y = 0;

        Town() {
            clear();
            look();
        }

        int at(int spot) {
            return spot >= 0 && spot < SPOTS ? what[spot] : WALL;
        }

        boolean isWall(int spot) {
            return at(spot) == WALL;
        }

        boolean sees(int from, int spot) {
            if (from < 0 || from >= SPOTS || spot < 0 || spot >= SPOTS) {
                return false;
            }
            return (sight[from] >> spot & 1) == 1;
        }

        /** Where a STEP leads: into a wall or off the quarter it does not. */
        int after(int spot, int step) {
            if (spot < 0 || spot >= SPOTS || step < 0 || step >= STAY) {
                return spot;
            }
            int toX = spot % SIDE + STEP_X[step];
            int toY = spot / SIDE + STEP_Y[step];
            if (!isIn(toX, 0, SIDE - 1) || !isIn(toY, 0, SIDE - 1)) {
                return spot;
            }
            int to = SIDE * toY + toX;
            return isWall(to) ? spot : to;
        }

        int housesWithSpots() {
            int houses = 0;
            for (int h = 0; h < HOUSES; h++) {
                if (home[h] != NONE) {
                    houses |= 1 << h;
                }
            }
            return houses;
        }

        int housesSeenFrom(int spot) {
            int houses = 0;
            for (int h = 0; h < HOUSES; h++) {
                if (sees(spot, home[h])) {
                    houses |= 1 << h;
                }
            }
            return houses;
        }

        /** How many houses the text has, or its first fault. */
        int read(Tape tape, int n) {
            clear();
            int digit = 0;
            for (int place = 0; place < n; place++) {
                int sign = tape.at(place);
                if (digit == 0 && sign >= '2' && sign <= '8') {
                    digit = sign - '0';
                    if (x + digit > SIDE) {
                        return faultAt(6, place);
                    }
                } else {
                    int fault = sign == '/' ? endRow(digit, place) : put(sign, digit, place);
                    if (fault < 0) {
                        return fault;
                    }
                    digit = 0;
                }
            }
            if (digit != 0 || x < SIDE || y < SIDE - 1) {
                return faultAt(1, n);
            }
            look();
            return Integer.bitCount(housesWithSpots());
        }

        private void clear() {
            for (int spot = 0; spot < SPOTS; spot++) {
                what[spot] = LANE;
            }
            for (int h = 0; h < HOUSES; h++) {
                home[h] = NONE;
            }
            x = 0;
            y = 0;
        }

        private int endRow(int digit, int place) {
            if (digit != 0 || x < SIDE || y >= SIDE - 1) {
                return faultAt(1, place);
            }
            x = 0;
            y++;
            return 0;
        }

        private int put(int sign, int digit, int place) {
            boolean isLetter = sign >= 'a' && sign < 'a' + HOUSES;
            if (isLetter && digit != 0 || !isLetter && sign != '.' && sign != '#') {
                return faultAt(1, place);
            }
            if (x >= SIDE) {
                return faultAt(6, place);
            }
            if (isLetter) {
                return putHouse(sign - 'a', place);
            }
            int many = Math.max(digit, 1);
            for (int i = 0; i < many && x < SIDE; i++) {
                what[SIDE * y + x] = sign == '#' ? WALL : LANE;
                x++;
            }
            return 0;
        }

        private int putHouse(int h, int place) {
            if (home[h] != NONE) {
                return faultAt(7, place);
            }
            home[h] = SIDE * y + x;
            what[home[h]] = FIRST_HOUSE + h;
            x++;
            return 0;
        }

        private void look() {
            for (int spot = 0; spot < SPOTS; spot++) {
                sight[spot] = 1L << spot;
                for (int way = 0; way < STAY; way++) {
                    sight[spot] |= lookAlong(spot, way);
                }
            }
        }

        private long lookAlong(int from, int way) {
            long seen = 0;
            int toX = from % SIDE + STEP_X[way];
            int toY = from / SIDE + STEP_Y[way];
            for (int i = 1; i < SIDE; i++) {
                if (!isIn(toX, 0, SIDE - 1) || !isIn(toY, 0, SIDE - 1)) {
                    return seen;
                }
                int spot = SIDE * toY + toX;
                seen |= 1L << spot;
                if (what[spot] != LANE) {
                    return seen;
                }
                toX += STEP_X[way];
                toY += STEP_Y[way];
            }
            return seen;
        }
    }

    /** The STEPS of each house's ghost, and the reading of them. */
    private static final class Walks {
        private static final int MOST_OPEN = 3;

        final int[] length = new int[HOUSES];
        private final int[][] steps = new int[HOUSES][MOST_STEPS];
        private final int[] one = new int[MOST_STEPS + 1];
        private final int[] other = new int[MOST_STEPS + 1];
        private final int[] draft = new int[MOST_STEPS];
        private final int[] openPlace = new int[MOST_OPEN];
        private final int[] openTimes = new int[MOST_OPEN];
        private final int[] openFrom = new int[MOST_OPEN];
        private int size = 0;
        private int open = 0;
        private int digit = 0;
        private int digitPlace = 0;
        private boolean bare = false;

        /** How many STEPS the text has, or its first fault. */
        int read(Tape tape, int n, int h) {
            size = 0;
            open = 0;
            digit = 0;
            bare = false;
            for (int place = 0; place < n; place++) {
                int fault = take(tape.at(place), place);
                if (fault < 0) {
                    return fault;
                }
            }
            if (digit != 0 || open > 0) {
                return faultAt(1, n);
            }
            for (int i = 0; i < size; i++) {
                steps[h][i] = draft[i];
            }
            length[h] = size;
            return size;
        }

        /** Writes the spots of a NIGHT and tells its last MINUTE. */
        int trace(Town town, int h, int[] path) {
            path[0] = town.home[h];
            for (int i = 0; i < length[h]; i++) {
                path[i + 1] = town.after(path[i], steps[h][i]);
            }
            return length[h];
        }

        int meeting(Town town, int h, int j) {
            int over = Math.max(trace(town, h, one), trace(town, j, other));
            for (int t = 0; t <= over; t++) {
                int spot = oneIn(h, t);
                int spotOfOther = otherIn(j, t);
                if (spot == spotOfOther) {
                    return t;
                }
                if (t > 0 && spot == otherIn(j, t - 1) && spotOfOther == oneIn(h, t - 1)) {
                    return t;
                }
            }
            return NOT_SO;
        }

        int oneIn(int h, int minute) {
            return one[Math.min(minute, length[h])];
        }

        int otherIn(int j, int minute) {
            return other[Math.min(minute, length[j])];
        }

        private int take(int sign, int place) {
            if (digit == 0 && sign >= '2' && sign <= '9') {
                digit = sign - '0';
                digitPlace = place;
                return 0;
            }
            int first = digit == 0 ? place : digitPlace;
            int times = Math.max(digit, 1);
            int step = stepOf(sign);
            if (step != NONE) {
                digit = 0;
                return addStep(step, times, first);
            }
            if (sign == '(') {
                digit = 0;
                return openGroup(times, first, place);
            }
            if (sign == ')' && digit == 0 && open > 0 && !bare) {
                return closeGroup();
            }
            return faultAt(1, place);
        }

        private int addStep(int step, int times, int first) {
            if (size + times > MOST_STEPS) {
                return faultAt(6, first);
            }
            for (int i = 0; i < times; i++) {
                draft[size] = step;
                size++;
            }
            bare = false;
            return 0;
        }

        private int openGroup(int times, int first, int place) {
            if (open >= MOST_OPEN) {
                return faultAt(5, place);
            }
            openTimes[open] = times;
            openPlace[open] = first;
            openFrom[open] = size;
            open++;
            bare = true;
            return 0;
        }

        private int closeGroup() {
            open--;
            int from = openFrom[open];
            int more = (size - from) * (openTimes[open] - 1);
            if (size + more > MOST_STEPS) {
                return faultAt(6, openPlace[open]);
            }
            for (int i = 0; i < more; i++) {
                draft[size] = draft[from + i];
                size++;
            }
            return 0;
        }

        private static int stepOf(int sign) {
            switch (sign) {
                case 'n':
                    return 0;
                case 'e':
                    return 1;
                case 's':
                    return 2;
                case 'w':
                    return 3;
                case '.':
                    return STAY;
                default:
                    return NONE;
            }
        }
    }

    /**
     * THE LAW as a row of commands for a machine with a stack; a command is the sign of the text
     * that it comes from, so that the reader can write it as it reads.
     */
    private static final class Law {
        static final int MOST_CLAUSES = 16;
        static final int END = ';';
        static final int NUMBER = '0';
        static final int LETTER = 'a';
        private static final int MOST_COMMANDS = 320;
        private static final int STACK = 64;
        private static final int FACTS = 10;
        private static final int HAUNTER = 0;
        private static final int OTHER = 1;
        private static final int STRANGER = 2;
        private static final int AWAY = 3;
        private static final int FEAR_BEFORE = 4;
        private static final int COURAGE = 5;
        private static final int MINUTE = 6;
        private static final int THE_NIGHT = 7;
        private static final int WEEKDAY = 8;
        private static final int APART = 9;
        private static final int FEAR_BOUND = 99;
        private static final int PAY_BOUND = 999;

        int clauses = 0;
        private final int[] letter = new int[MOST_CLAUSES];
        private final int[] value = new int[MOST_CLAUSES];
        private final int[] condition = new int[MOST_CLAUSES];
        private final int[] command = new int[MOST_COMMANDS];
        private final int[] operand = new int[MOST_COMMANDS];
        private int size = 0;
        private final int[] facts = new int[FACTS];
        private final int[] stack = new int[STACK];
        private int top = 0;
        private boolean refused = false;

        /** The place of a letter among the facts. */
        static int factOf(int sign) {
            switch (sign) {
                case 'h':
                    return HAUNTER;
                case 'j':
                    return OTHER;
                case 'g':
                    return STRANGER;
                case 'a':
                    return AWAY;
                case 'b':
                    return FEAR_BEFORE;
                case 'k':
                    return COURAGE;
                case 't':
                    return MINUTE;
                case 'd':
                    return THE_NIGHT;
                case 'w':
                    return WEEKDAY;
                case 'o':
                    return APART;
                default:
                    return NONE;
            }
        }

        void clear() {
            clauses = 0;
            size = 0;
        }

        /** The value's commands come next. */
        void openClause(int sign) {
            if (clauses < MOST_CLAUSES) {
                letter[clauses] = sign;
                value[clauses] = size;
                condition[clauses] = size;
                clauses++;
            }
        }

        /** The value's commands are over, the condition's come next. */
        void openCondition() {
            if (clauses > 0) {
                condition[clauses - 1] = size;
            }
        }

        int add(int sign, int number) {
            int place = size;
            if (size < MOST_COMMANDS) {
                command[size] = sign;
                operand[size] = number;
                size++;
            }
            return place;
        }

        /** Lets a skip at that place lead behind what has been added since. */
        void aim(int place) {
            if (place >= 0 && place < size) {
                operand[place] = size;
            }
        }

        int fearOf(Times times, int h, int g, int away, int minute) {
            tellStranger(times, h, g, minute);
            facts[AWAY] = away;
            return worth('f', FEAR_BOUND);
        }

        int payOf(Times times, int h, int g, int minute) {
            tellStranger(times, h, g, minute);
            return worth('c', PAY_BOUND);
        }

        int tenths(Town town, int night, int h, int j) {
            tellNight(h, night);
            facts[OTHER] = j;
            facts[APART] = stepsBetween(town.home[h], town.home[j]);
            return worth('r', TENTHS);
        }

        boolean mayHaunt(int h, int night) {
            tellNight(h, night);
            boolean any = false;
            for (int i = 0; i < clauses; i++) {
                if (letter[i] == 'm') {
                    any = true;
                    if (run(condition[i]) != 0) {
                        return true;
                    }
                }
            }
            return !any;
        }

        private void tellNight(int h, int night) {
            for (int i = 0; i < FACTS; i++) {
                facts[i] = 0;
            }
            facts[HAUNTER] = h;
            facts[THE_NIGHT] = night;
            facts[WEEKDAY] = night % 7;
        }

        private void tellStranger(Times times, int h, int g, int minute) {
            tellNight(h, times.night);
            facts[STRANGER] = g;
            facts[FEAR_BEFORE] = times.fear[g];
            facts[COURAGE] = times.courage[g];
            facts[MINUTE] = minute;
        }

        private int worth(int sign, int most) {
            for (int i = 0; i < clauses; i++) {
                if (letter[i] == sign && run(condition[i]) != 0) {
                    return Math.max(0, Math.min(most, run(value[i])));
                }
            }
            return 0;
        }

        /** What the commands from there on leave; 0 if they divide by 0, so that a C does not hold. */
        private int run(int from) {
            top = 0;
            refused = false;
            int place = from;
            // skips lead ahead only, so no command is met twice
            for (int i = 0; i < MOST_COMMANDS && !refused; i++) {
                if (place < 0 || place >= size || command[place] == END) {
                    break;
                }
                int sign = command[place];
                int number = operand[place];
                place++;
                if (sign == '&' || sign == '|') {
                    int asked = pop();
                    if ((asked != 0) == (sign == '|')) {
                        push(asked);
                        place = number;
                    }
                } else if (sign == NUMBER) {
                    push(number);
                } else if (sign == LETTER) {
                    push(number >= 0 && number < FACTS ? facts[number] : 0);
                } else if (sign == '!') {
                    push(pop() == 0 ? 1 : 0);
                } else {
                    int right = pop();
                    push(work(sign, pop(), right));
                }
            }
            return refused ? 0 : pop();
        }

        private int work(int sign, int left, int right) {
            if ((sign == '/' || sign == '%') && right == 0) {
                refused = true;
                return 0;
            }
            switch (sign) {
                case '+':
                    return left + right;
                case '-':
                    return left - right;
                case '*':
                    return left * right;
                case '/':
                    return left / right;
                case '%':
                    return left % right;
                case '<':
                    return left < right ? 1 : 0;
                case '>':
                    return left > right ? 1 : 0;
                default:
                    return left == right ? 1 : 0;
            }
        }

        private void push(int number) {
            if (top < STACK) {
                stack[top] = number;
                top++;
            }
        }

        private int pop() {
            if (top <= 0) {
                return 0;
            }
            top--;
            return stack[top];
        }
    }

    /** Reads THE LAW; the depth is how many of ( [ ! are open. */
    private static final class LawReader {
        private static final int DEEPEST = 6;
        private static final int DIGITS = 5;

        private final int[] text = new int[LAW_TEXT];
        private int length = 0;
        private int place = 0;
        private int fault = 0;

        /** How many CLAUSES the text has, or its first fault. */
        int read(Tape tape, int n, Law law) {
            length = Math.min(n, LAW_TEXT);
            for (int i = 0; i < length; i++) {
                text[i] = tape.at(i);
            }
            place = 0;
            fault = 0;
            law.clear();
            boolean more = readClause(law);
            for (int i = 0; i < LAW_TEXT && more && place < length; i++) {
                more = expect(';') && readClause(law);
            }
            return more ? law.clauses : fault;
        }

        private boolean readClause(Law law) {
            int sign = next();
            if (sign != 'f' && sign != 'c' && sign != 'm' && sign != 'r') {
                return fail(1);
            }
            if (law.clauses >= Law.MOST_CLAUSES) {
                return fail(4);
            }
            place++;
            law.openClause(sign);
            if (sign != 'm' && !readSum(law, 0)) {
                return false;
            }
            law.add(Law.END, 0);
            law.openCondition();
            if (!expect('(') || !readEither(law, 1) || !expect(')')) {
                return false;
            }
            law.add(Law.END, 0);
            return true;
        }

        /** A C. */
        private boolean readEither(Law law, int depth) {
            boolean fine = readBoth(law, depth);
            for (int i = 0; i < LAW_TEXT && fine && next() == '|'; i++) {
                place++;
                int skip = law.add('|', 0);
                fine = readBoth(law, depth);
                law.aim(skip);
            }
            return fine;
        }

        /** A PART. */
        private boolean readBoth(Law law, int depth) {
            boolean fine = readPiece(law, depth);
            for (int i = 0; i < LAW_TEXT && fine && next() == '&'; i++) {
                place++;
                int skip = law.add('&', 0);
                fine = readPiece(law, depth);
                law.aim(skip);
            }
            return fine;
        }

        private boolean readPiece(Law law, int depth) {
            int sign = next();
            if (sign == '!' || sign == '(') {
                return depth < DEEPEST ? readOpen(law, depth, sign) : fail(5);
            }
            if (!readSum(law, depth)) {
                return false;
            }
            int compare = next();
            if (compare != '<' && compare != '>' && compare != '=') {
                return fail(1);
            }
            place++;
            if (!readSum(law, depth)) {
                return false;
            }
            law.add(compare, 0);
            return true;
        }

        private boolean readOpen(Law law, int depth, int sign) {
            place++;
            if (sign == '(') {
                return readEither(law, depth + 1) && expect(')');
            }
            if (!readPiece(law, depth + 1)) {
                return false;
            }
            law.add('!', 0);
            return true;
        }

        /** An E. */
        private boolean readSum(Law law, int depth) {
            boolean fine = readTerm(law, depth);
            for (int i = 0; i < LAW_TEXT && fine; i++) {
                int sign = next();
                if (sign != '+' && sign != '-') {
                    return true;
                }
                place++;
                fine = readTerm(law, depth);
                law.add(sign, 0);
            }
            return fine;
        }

        private boolean readTerm(Law law, int depth) {
            boolean fine = readFactor(law, depth);
            for (int i = 0; i < LAW_TEXT && fine; i++) {
                int sign = next();
                if (sign != '*' && sign != '/' && sign != '%') {
                    return true;
                }
                place++;
                fine = readFactor(law, depth);
                law.add(sign, 0);
            }
            return fine;
        }

        private boolean readFactor(Law law, int depth) {
            int sign = next();
            if (isDigit(sign)) {
                return readNumber(law);
            }
            if (sign == '[') {
                if (depth >= DEEPEST) {
                    return fail(5);
                }
                place++;
                return readSum(law, depth + 1) && expect(']');
            }
            int fact = Law.factOf(sign);
            if (fact == NONE) {
                return fail(1);
            }
            place++;
            law.add(Law.LETTER, fact);
            return true;
        }

        private boolean readNumber(Law law) {
            int number = 0;
            for (int i = 0; i < DIGITS && isDigit(next()); i++) {
                number = 10 * number + next() - '0';
                place++;
            }
            if (isDigit(next())) {
                return fail(2);
            }
            law.add(Law.NUMBER, number);
            return true;
        }

        private int next() {
            return place >= 0 && place < length ? text[place] : Tape.END;
        }

        private boolean expect(int sign) {
            if (next() != sign) {
                return fail(1);
            }
            place++;
            return true;
        }

        private boolean fail(int number) {
            fault = -1000 * number - place;
            return false;
        }

        private static boolean isDigit(int sign) {
            return sign >= '0' && sign <= '9';
        }
    }

    /** What is KEPT and UNDONE. */
    private static final class Times {
        static final int LAST_X = 65535;

        final int[] spot = new int[STRANGERS];
        final int[] fear = new int[STRANGERS];
        final int[] courage = new int[STRANGERS];
        final int[] paid = new int[STRANGERS];
        int toldDogs = 0;
        int coins = 0;
        int night = 0;
        int x = 1;

        Times() {
            for (int g = 0; g < STRANGERS; g++) {
                spot[g] = NONE;
            }
        }

        void copy(Times from) {
            for (int g = 0; g < STRANGERS; g++) {
                spot[g] = from.spot[g];
                fear[g] = from.fear[g];
                courage[g] = from.courage[g];
                paid[g] = from.paid[g];
            }
            toldDogs = from.toldDogs;
            coins = from.coins;
            night = from.night;
            x = from.x;
        }

        boolean isTold(int g) {
            return spot[g] != NONE;
        }

        void putStranger(int g, int where, int heart) {
            spot[g] = where;
            fear[g] = 0;
            courage[g] = heart;
            paid[g] = 0;
        }

        void dropFromWalls(Town town) {
            for (int g = 0; g < STRANGERS; g++) {
                if (isTold(g) && town.isWall(spot[g])) {
                    putStranger(g, NONE, 0);
                }
            }
        }

        boolean sees(Town town, int g, int where) {
            return isTold(g) && paid[g] == 0 && town.sees(spot[g], where);
        }

        int toldStrangers() {
            int bits = 0;
            for (int g = 0; g < STRANGERS; g++) {
                if (isTold(g)) {
                    bits |= 1 << g;
                }
            }
            return bits;
        }

        int paidStrangers() {
            int bits = 0;
            for (int g = 0; g < STRANGERS; g++) {
                bits |= paid[g] << g;
            }
            return bits;
        }

        int draw() {
            x = (25173 * x + 13849) % (LAST_X + 1);
            return x % TENTHS;
        }
    }

    /** A NIGHT of a house, gone through on a copy of the times. */
    private static final class Night {
        final Times end = new Times();
        final int[] path = new int[MOST_STEPS + 1];
        final int[] payMinute = new int[STRANGERS];
        int last = 0;
        int coins = 0;
        int payers = 0;
        int barks = 0;
        int seen = 0;
        int growth = 0;

        void pass(Town town, Walks walks, Law law, Times now, int h, int awake) {
            start(now);
            last = walks.trace(town, h, path);
            for (int t = 0; t <= last; t++) {
                boolean isSeen = false;
                for (int g = 0; g < STRANGERS; g++) {
                    if (end.sees(town, g, path[t])) {
                        isSeen = true;
                        frighten(law, h, g, t);
                    }
                }
                if (isSeen) {
                    seen++;
                }
                barks += barksAt(town, path[t], awake);
            }
            end.coins += coins;
        }

        private void start(Times now) {
            end.copy(now);
            coins = 0;
            payers = 0;
            barks = 0;
            seen = 0;
            growth = 0;
            for (int g = 0; g < STRANGERS; g++) {
                payMinute[g] = NOT_SO;
            }
        }

        private void frighten(Law law, int h, int g, int minute) {
            int before = end.fear[g];
            int away = stepsBetween(end.spot[g], path[minute]);
            int more = law.fearOf(end, h, g, away, minute);
            end.fear[g] = Math.min(MOST_FEAR, before + more);
            growth += end.fear[g] - before;
            if (end.fear[g] >= end.courage[g]) {
                coins += law.payOf(end, h, g, minute);
                payers |= 1 << g;
                payMinute[g] = minute;
                end.paid[g] = 1;
            }
        }

        private static int barksAt(Town town, int ghost, int awake) {
            int many = 0;
            for (int h = 0; h < HOUSES; h++) {
                boolean barks = hasBit(awake, h) && town.home[h] != NONE;
                if (barks && stepsBetween(town.home[h], ghost) <= 1) {
                    many++;
                }
            }
            return many;
        }
    }

    /** Searches over the spots. */
    private static final class Paths {
        static final int DREAD_MINUTES = 40;
        /** Above the STEPS of any way without a circle, so that a MINUTE seen outweighs them all. */
        static final int SEEN_COST = 100;

        final int[] far = new int[SPOTS];
        int most = 0;
        int end = 0;
        private final int[] sum = new int[SPOTS];
        private final int[] further = new int[SPOTS];
        private final int[] line = new int[SPOTS];

        /** Writes how many STEPS each spot is from there, NONE where one can't come. */
        void measure(Town town, int from) {
            for (int spot = 0; spot < SPOTS; spot++) {
                far[spot] = NONE;
            }
            far[from] = 0;
            line[0] = from;
            int size = 1;
            for (int i = 0; i < SPOTS && i < size; i++) {
                for (int step = 0; step < STAY; step++) {
                    int to = town.after(line[i], step);
                    if (far[to] == NONE && size < SPOTS) {
                        far[to] = far[line[i]] + 1;
                        line[size] = to;
                        size++;
                    }
                }
            }
        }

        /** DREAD: leaves the FEAR in most and the spot in end. */
        void frighten(Town town, Law law, Times now, int h, int minutes) {
            for (int spot = 0; spot < SPOTS; spot++) {
                sum[spot] = NONE;
            }
            sum[town.home[h]] = fearOn(town, law, now, h, town.home[h], 0);
            for (int t = 1; t < minutes; t++) {
                stepOn(town);
                for (int spot = 0; spot < SPOTS; spot++) {
                    if (further[spot] == NONE) {
                        sum[spot] = NONE;
                    } else {
                        sum[spot] = further[spot] + fearOn(town, law, now, h, spot, t);
                    }
                }
            }
            chooseMost();
        }

        private void stepOn(Town town) {
            for (int spot = 0; spot < SPOTS; spot++) {
                further[spot] = sum[spot];
            }
            for (int spot = 0; spot < SPOTS; spot++) {
                for (int step = 0; step < STAY; step++) {
                    int to = town.after(spot, step);
                    further[to] = Math.max(further[to], sum[spot]);
                }
            }
        }

        private int fearOn(Town town, Law law, Times now, int h, int spot, int minute) {
            int fear = 0;
            for (int g = 0; g < STRANGERS; g++) {
                if (now.sees(town, g, spot)) {
                    fear += law.fearOf(now, h, g, stepsBetween(now.spot[g], spot), minute);
                }
            }
            return fear;
        }

        private void chooseMost() {
            most = NONE;
            end = NONE;
            for (int spot = 0; spot < SPOTS; spot++) {
                if (sum[spot] > most) {
                    most = sum[spot];
                    end = spot;
                }
            }
        }

        /** UNSEEN: MINUTES seen times SEEN_COST and the STEPS, or NONE. */
        int hide(Town town, Times now, int from, int to) {
            for (int spot = 0; spot < SPOTS; spot++) {
                sum[spot] = NONE;
                line[spot] = 0;
                further[spot] = SEEN_COST * watchersOf(town, now, spot);
            }
            sum[from] = further[from];
            for (int i = 0; i < SPOTS; i++) {
                int spot = cheapestOpen();
                if (spot == NONE) {
                    break;
                }
                line[spot] = 1;
                for (int step = 0; step < STAY; step++) {
                    int beside = town.after(spot, step);
                    int cost = sum[spot] + further[beside] + 1;
                    if (sum[beside] == NONE || cost < sum[beside]) {
                        sum[beside] = cost;
                    }
                }
            }
            return sum[to];
        }

        private int cheapestOpen() {
            int best = NONE;
            for (int spot = 0; spot < SPOTS; spot++) {
                if (sum[spot] != NONE && line[spot] == 0 && (best == NONE || sum[spot] < sum[best])) {
                    best = spot;
                }
            }
            return best;
        }

        private static int watchersOf(Town town, Times now, int spot) {
            int many = 0;
            for (int g = 0; g < STRANGERS; g++) {
                if (now.sees(town, g, spot)) {
                    many++;
                }
            }
            return many;
        }

        /** A WATCH: leaves the MINUTES in most and the spot in end, NONE if there is no lane. */
        void lookOut(Town town, Walks walks) {
            countVisits(town, walks);
            for (int spot = 0; spot < SPOTS; spot++) {
                sum[spot] = NONE;
                if (town.at(spot) == LANE) {
                    sum[spot] = 0;
                    for (int ghost = 0; ghost < SPOTS; ghost++) {
                        if (town.sees(spot, ghost)) {
                            sum[spot] += further[ghost];
                        }
                    }
                }
            }
            chooseMost();
        }

        /** Writes how many MINUTES of all houses' NIGHTS a ghost is on each spot. */
        private void countVisits(Town town, Walks walks) {
            for (int spot = 0; spot < SPOTS; spot++) {
                further[spot] = 0;
            }
            for (int h = 0; h < HOUSES; h++) {
                if (town.home[h] != NONE) {
                    int last = walks.trace(town, h, line);
                    for (int t = 0; t <= last; t++) {
                        further[line[t]]++;
                    }
                }
            }
        }
    }

    /** Spots seen at MINUTES, and which of them one ghost can make one behind the other. */
    private static final class Sightings {
        static final int MOST = 10;

        private final int[] minute = new int[MOST];
        private final int[] spot = new int[MOST];
        /** For each one the others (bits) that one ghost can make with it. */
        private final int[] linked = new int[MOST];
        private int size = 0;

        boolean read(Tape tape, int n, Town town) {
            size = n;
            for (int i = 0; i < n; i++) {
                minute[i] = tape.at(2 * i);
                spot[i] = tape.at(2 * i + 1);
                linked[i] = 0;
                if (town.isWall(spot[i]) || i > 0 && minute[i] < minute[i - 1]) {
                    return false;
                }
            }
            return true;
        }

        void link(Town town, Paths paths) {
            for (int i = 0; i < size; i++) {
                paths.measure(town, spot[i]);
                for (int j = i + 1; j < size; j++) {
                    int far = paths.far[spot[j]];
                    if (far != NONE && far <= minute[j] - minute[i]) {
                        linked[i] |= 1 << j;
                        linked[j] |= 1 << i;
                    }
                }
            }
        }

        /**
         * Who can make i and j, and j and k, can make i and k: so as many ghosts are enough as the
         * most sightings of which no two are one ghost's (Dilworth).
         */
        int fewestGhosts() {
            int most = 0;
            for (int some = 0; some < 1 << size; some++) {
                int many = Integer.bitCount(some);
                if (many > most && areApart(some)) {
                    most = many;
                }
            }
            return most;
        }

        private boolean areApart(int some) {
            for (int i = 0; i < size; i++) {
                if (hasBit(some, i) && (linked[i] & some) != 0) {
                    return false;
                }
            }
            return true;
        }

        int fromWhere(Town town, Paths paths) {
            for (int i = 1; i < size; i++) {
                if (!hasBit(linked[i], i - 1)) {
                    return 0;
                }
            }
            paths.measure(town, spot[0]);
            int houses = 0;
            for (int h = 0; h < HOUSES; h++) {
                int far = town.home[h] == NONE ? NONE : paths.far[town.home[h]];
                if (far != NONE && far <= minute[0]) {
                    houses |= 1 << h;
                }
            }
            return houses;
        }
    }

    /**
     * ROTAS. A state is how many NIGHTS each of the houses has had (two bits each) and which one had
     * the last; for each state stands in how many ways, and how evenly, the row can end.
     */
    private static final class Rotas {
        static final int MOST_NIGHTS = 14;
        static final int MOST_EACH = 3;
        static final int MOST_HOUSES = 5;
        static final int HOW_MANY = 100;
        static final int HOW_EVEN = 101;
        private static final int MOST_ROWS = 1000000000;
        private static final int COUNTS = 1024;
        private static final int NOBODY = MOST_HOUSES;
        private static final int LASTS = MOST_HOUSES + 1;

        private final int[] member = new int[MOST_HOUSES];
        private final int[] allowed = new int[MOST_NIGHTS];
        private final int[] ways = new int[COUNTS * LASTS];
        private final int[] spread = new int[COUNTS * LASTS];
        private int members = 0;
        private int nights = 0;
        private int each = 0;

        void plan(Law law, int from, int n, int houses, int k) {
            nights = n;
            each = k;
            members = 0;
            for (int h = 0; h < HOUSES; h++) {
                if (hasBit(houses, h) && members < MOST_HOUSES) {
                    member[members] = h;
                    members++;
                }
            }
            for (int night = 0; night < n; night++) {
                allowed[night] = 0;
                for (int i = 0; i < members; i++) {
                    if (law.mayHaunt(member[i], from + night)) {
                        allowed[night] |= 1 << i;
                    }
                }
            }
            // one NIGHT more makes the number of the counts greater: so from the greatest down
            for (int counts = (1 << 2 * members) - 1; counts >= 0; counts--) {
                for (int last = 0; last < LASTS; last++) {
                    weigh(counts, last);
                }
            }
        }

        int howMany() {
            return ways[stateOf(0, NOBODY)];
        }

        int howEven() {
            return spread[stateOf(0, NOBODY)];
        }

        int houseIn(int night) {
            int counts = 0;
            int last = NOBODY;
            for (int i = 0; i <= night; i++) {
                last = firstMember(counts, last, i);
                if (last == NOBODY) {
                    return NOT_SO;
                }
                counts += 1 << 2 * last;
            }
            return member[last];
        }

        private int firstMember(int counts, int last, int night) {
            for (int i = 0; i < members; i++) {
                if (canBe(counts, last, night, i) && ways[stateAfter(counts, i)] > 0) {
                    return i;
                }
            }
            return NOBODY;
        }

        private void weigh(int counts, int last) {
            int state = stateOf(counts, last);
            int night = nightsIn(counts);
            ways[state] = 0;
            spread[state] = nights;
            if (night == nights) {
                ways[state] = 1;
                spread[state] = spreadOf(counts);
            }
            for (int i = 0; i < members && night < nights; i++) {
                if (canBe(counts, last, night, i)) {
                    int further = stateAfter(counts, i);
                    if (ways[further] > 0) {
                        ways[state] = Math.min(MOST_ROWS, ways[state] + ways[further]);
                        spread[state] = Math.min(spread[state], spread[further]);
                    }
                }
            }
        }

        private boolean canBe(int counts, int last, int night, int i) {
            return i != last && countOf(counts, i) < each && hasBit(allowed[night], i);
        }

        private int stateAfter(int counts, int i) {
            return stateOf(counts + (1 << 2 * i), i);
        }

        private static int stateOf(int counts, int last) {
            return counts * LASTS + last;
        }

        private static int countOf(int counts, int i) {
            return counts >> 2 * i & 3;
        }

        private int nightsIn(int counts) {
            int sum = 0;
            for (int i = 0; i < members; i++) {
                sum += countOf(counts, i);
            }
            return sum;
        }

        private int spreadOf(int counts) {
            int least = MOST_EACH;
            int most = 0;
            for (int i = 0; i < members; i++) {
                least = Math.min(least, countOf(counts, i));
                most = Math.max(most, countOf(counts, i));
            }
            return most - least;
        }
    }

    /** How a RUMOUR goes from house to house; houses that know it have spots here. */
    private static final class Rumour {
        static final int MOST_DAYS = 20;
        private static final int MOST_DIVISIONS = 200;

        static int pass(Town town, Law law, Times now, int knows) {
            int told = knows;
            int others = town.housesWithSpots() & ~knows;
            for (int h = 0; h < HOUSES; h++) {
                for (int j = 0; j < HOUSES; j++) {
                    if (hasBit(knows, h) && hasBit(others, j)) {
                        if (now.draw() < law.tenths(town, now.night, h, j)) {
                            told |= 1 << j;
                        }
                    }
                }
            }
            return told;
        }

        static long allDraws(int knows) {
            long all = 1;
            for (int h = 0; h < HOUSES; h++) {
                if (hasBit(knows, h)) {
                    all *= TENTHS;
                }
            }
            return all;
        }

        /** In how many of all draws house j hears it. */
        static long drawsThatTell(Town town, Law law, int night, int knows, int j) {
            long silent = 1;
            for (int h = 0; h < HOUSES; h++) {
                if (hasBit(knows, h)) {
                    silent *= TENTHS - law.tenths(town, night, h, j);
                }
            }
            return allDraws(knows) - silent;
        }

        static long drawsInAll(Town town, Law law, int night, int knows) {
            int others = town.housesWithSpots() & ~knows;
            long sum = 0;
            for (int j = 0; j < HOUSES; j++) {
                if (hasBit(others, j)) {
                    sum += drawsThatTell(town, law, night, knows, j);
                }
            }
            return sum;
        }

        static long commonDivisor(long one, long other) {
            for (int i = 0; i < MOST_DIVISIONS && other != 0; i++) {
                long rest = one % other;
                one = other;
                other = rest;
            }
            return one;
        }
    }
}
