import java.util.Arrays;

/** A sea of sand whose waves go by days, and the ships on it: ../shared/DOC.md says what each call answers. */
public final class DuneRoad {
    public static final int NONE = -1;

    private static final int NEVER = -2;
    private static final int NOT_SO = -3;
    private static final int NO_VOYAGE = -4;

    private static final int TAPE_ROOM = 400;
    private static final int FEED_BYTES = 20;
    private static final int MOST_CELLS = 12;
    private static final int MOST_TRAINS = 3;
    private static final int MOST_ROW = 20;
    private static final int MOST_OF_A_KIND = 4;
    private static final int MOST_PLACES = 8;
    private static final int MOST_TANK = 30;
    private static final int MOST_RULES = 6;
    private static final int MOST_DIGGINGS = 8;
    private static final int MOST_ACTS = 20;
    private static final int MOST_TOLD = 10;
    private static final int MOST_FLEET = 6;
    private static final int MOST_IMAGES = 4;
    private static final int MOST_LAG = 9;
    private static final int MOST_MAST = 60;
    private static final int LAST_DAY = 9999;
    private static final int LAST_DAY_OF_HEIGHT = 99999;
    private static final int VOYAGE_DAYS = 300;
    private static final int FENCE_SAND = 3;
    private static final int NO_CELL_HEIGHT = 99;

    // The kinds of FAULTS.
    private static final int NOT_HERE = 0;
    private static final int NOT_AS_TOLD = 1;
    private static final int TOO_DEEP = 2;
    private static final int TOO_MANY_PARTS = 3;
    private static final int TOO_MANY_CLAUSES = 4;

    // A word's number is its place in WORDS, where each has six signs.
    private static final int WORD_SIGNS = 6;
    private static final int WORD_COUNT = 22;
    private static final String WORDS =
            "sea   train groundwell  town  ship  storm go    if    fill  or    and   not   cell  day   water tank  heightback  on    price paid  ";
    private static final int SEA = 0;
    private static final int TRAIN = 1;
    private static final int GROUND = 2;
    private static final int WELL = 3;
    private static final int TOWN = 4;
    private static final int SHIP = 5;
    private static final int STORM = 6;
    private static final int GO = 7;
    private static final int IF = 8;
    private static final int FILL = 9;
    private static final int OR = 10;
    private static final int AND = 11;
    private static final int NOT = 12;
    private static final int CELL = 13;
    private static final int DAY = 14;
    private static final int WATER = 15;
    private static final int TANK = 16;
    private static final int HEIGHT = 17;
    private static final int BACK = 18;
    private static final int ON = 19;
    private static final int PRICE = 20;
    private static final int PAID = 21;

    // Signs are told by their byte; those of two bytes by the first one and this, which is above all bytes:
    // so no byte alone can stand for one of these.
    private static final int OR_EQUAL = 256;
    private static final int AT_MOST = '<' + OR_EQUAL;
    private static final int AT_LEAST = '>' + OR_EQUAL;

    // In a RULE's code numbers begin here, above all words and signs.
    private static final int NUMBERS = 1000;

    private final Tape tape = new Tape();
    private final SeaReader seaReader = new SeaReader(tape);
    private final RuleReader ruleReader = new RuleReader(tape);
    private final Rule[] rules = new Rule[MOST_RULES];
    private int ruleCount;
    private final Sea noSea = new Sea();
    private Sea spareSea = new Sea();
    private final World world = new World(noSea);
    private final World[] images = new World[MOST_IMAGES];
    private final Crew crew = new Crew(noSea);
    private final Pilot pilot = new Pilot();
    private final Finder finder = new Finder();
    private final int[] ways = new int[MOST_OF_A_KIND];

    public DuneRoad() {
        for (int i = 0; i < MOST_RULES; i++) {
            rules[i] = new Rule();
        }
    }

    public int feed(int a, int b, int c, int d, int e) {
        if (tape.length > TAPE_ROOM - FEED_BYTES) {
            return NONE;
        }
        tape.addFour(a);
        tape.addFour(b);
        tape.addFour(c);
        tape.addFour(d);
        tape.addFour(e);
        return tape.length;
    }

    public int end(int n) {
        if (n < 0 || n > tape.length) {
            return NONE;
        }
        tape.length = n;
        return n;
    }

    public int sea() {
        int fault = seaReader.read(spareSea);
        tape.length = 0;
        if (fault != 0) {
            return -2 - fault;
        }
        world.startOn(spareSea);
        // Images may hold the old sea for good, so what is read next needs an object of its own.
        spareSea = new Sea();
        return world.now.sea.cells;
    }

    public int rule() {
        if (ruleCount >= MOST_RULES) {
            return NONE;
        }
        int fault = ruleReader.read(rules[ruleCount]);
        tape.length = 0;
        if (fault != 0) {
            return -2 - fault;
        }
        ruleCount++;
        return ruleCount - 1;
    }

    public int height(int cell, int day) {
        if (!world.now.sea.hasCell(cell) || day < 0 || day > LAST_DAY_OF_HEIGHT) {
            return NONE;
        }
        return world.now.level(cell, day);
    }

    public int train(int train, int what) {
        Sea sea = world.now.sea;
        if (train < 0 || train >= sea.trains) {
            return NONE;
        }
        switch (what) {
            case 0: return sea.lag[train];
            case 1: return sea.shift[train];
            case 2: return sea.period[train];
            case 3: return sea.greatest[train];
            default: break;
        }
        return within(what, 100, 99 + sea.period[train]) ? sea.rowAt(train, what - 100) : NONE;
    }

    public int place(int place, int what) {
        Sea sea = world.now.sea;
        if (!sea.hasPlace(place)) {
            return NONE;
        }
        switch (what) {
            case 0: return sea.placeCell[place];
            case 1: return sea.placeLimit[place];
            case 2: return sea.placeCoins[place];
            case 3: return world.now.isOpen(place, world.now.day) ? 1 : 0;
            default: return NONE;
        }
    }

    public int ship(int ship, int what) {
        Moment now = world.now;
        if (!now.sea.hasShip(ship)) {
            return -2;
        }
        switch (what) {
            case 0: return now.cell[ship];
            case 1: return now.water[ship];
            case 2: return now.sea.tank[ship];
            case 3: return now.sea.climb[ship];
            case 4: return now.paid[ship];
            case 5: return now.dryOn[ship];
            default: return -2;
        }
    }

    public int sail(int ship, int way) {
        Moment now = world.now;
        if (!now.sea.hasShip(ship) || now.isDry(ship) || now.day >= LAST_DAY) {
            return NONE;
        }
        if (way != 0 && !now.mayGo(ship, way)) {
            return NONE;
        }
        world.remember();
        Arrays.fill(ways, 0);
        ways[ship] = way;
        now.passDay(ways);
        return now.day;
    }

    public int fill(int ship) {
        Moment now = world.now;
        if (!now.sea.hasShip(ship) || now.isDry(ship)) {
            return NONE;
        }
        int well = now.wellOf(now.cell[ship]);
        if (well == NONE) {
            return NONE;
        }
        world.remember();
        return now.fillFrom(well, ship);
    }

    public boolean fence(int cell, boolean is) {
        Moment now = world.now;
        if (!now.sea.hasCell(cell) || (now.fences >> cell & 1) == (is ? 1 : 0)) {
            return false;
        }
        world.remember();
        now.fences ^= 1 << cell;
        return true;
    }

    public int dig(int cell, int by, int days) {
        Moment now = world.now;
        if (!now.sea.hasCell(cell) || !within(by, 1, 20) || !within(days, 1, 30)) {
            return NONE;
        }
        if (now.diggings >= MOST_DIGGINGS) {
            return NONE;
        }
        world.remember();
        now.addDigging(cell, by, days);
        return now.level(cell, now.day);
    }

    public int undo() {
        return world.forgetLast() ? world.acts : -2;
    }

    public int run(int rule, int n) {
        Moment now = world.now;
        if (!now.sea.isThere() || !hasRule(rule) || !within(n, 1, 100) || now.day + n > LAST_DAY) {
            return NONE;
        }
        world.acts = 0;
        for (int i = 0; i < n; i++) {
            crew.passDay(now, rules[rule]);
        }
        return now.day;
    }

    public int round() {
        return world.now.sea.isThere() ? world.now.sea.round : NONE;
    }

    public int again(int place, int day) {
        if (!world.now.sea.hasPlace(place) || !isDay(day)) {
            return NONE;
        }
        return finder.firstOpen(world.now, place, day);
    }

    public int share(int place, int part) {
        Sea sea = world.now.sea;
        if (!sea.hasPlace(place) || !within(part, 0, 1)) {
            return NONE;
        }
        int open = finder.openDays(sea, world.now.fences, place, 0, sea.round - 1);
        return (int) lowest(open, sea.round, part);
    }

    public int crest(int cell, int day) {
        if (!world.now.sea.hasCell(cell) || !isDay(day)) {
            return NONE;
        }
        return finder.firstCrest(world.now.sea, cell, day);
    }

    public int voyage(int ship, int cell, int what) {
        Moment now = world.now;
        if (!now.sea.hasShip(ship) || !now.sea.hasCell(cell) || now.isDry(ship) || !within(what, 0, 3)) {
            return NO_VOYAGE;
        }
        int days = pilot.soonest(now, ship, cell);
        if (days == NONE) {
            return NOT_SO;
        }
        if (what == 0) {
            return now.day + days;
        }
        if (days == 0) {
            return what == 2 ? -2 : 0;
        }
        int best = pilot.leastDear(now, ship, cell, days);
        switch (what) {
            case 1: return Pilot.coinsOf(best);
            case 2: return Pilot.goingOf(best);
            default: return Pilot.fillOf(best);
        }
    }

    public int fences(int places, int from, int to, int what) {
        Moment now = world.now;
        if (!now.sea.isThere() || !now.sea.hasPlaces(places) || !within(what, 0, 2)) {
            return NONE;
        }
        if (!isDay(from) || !isDay(to) || to < from || to - from > 29) {
            return NONE;
        }
        int more = finder.fewestFences(now, places, from, to);
        if (more == NEVER) {
            return NEVER;
        }
        switch (what) {
            case 0: return Integer.bitCount(more);
            case 1: return more;
            default: return finder.openLess(now, more, from, to);
        }
    }

    public int sight(int day, boolean showed) {
        if (day == NONE) {
            world.sights = 0;
            return 0;
        }
        if (!world.now.sea.isThere() || !isDay(day) || world.sights >= MOST_TOLD) {
            return -2;
        }
        world.addSight(day, showed);
        return world.sights;
    }

    public int wreck(int mast) {
        if (!world.now.sea.isThere() || !within(mast, 0, MOST_MAST)) {
            return NONE;
        }
        return finder.cellsOfWreck(world, mast);
    }

    public int masts(int cell) {
        if (!world.now.sea.hasCell(cell)) {
            return NONE;
        }
        return Math.max(0, finder.mostMast(world, cell) - finder.leastMast(world, cell) + 1);
    }

    public int shows(int mast, int day) {
        if (!world.now.sea.isThere() || !within(mast, 0, MOST_MAST) || !isDay(day)) {
            return NONE;
        }
        return finder.firstShown(world, mast, day);
    }

    public int told(int cell, int day, int height) {
        if (cell == NONE) {
            world.heights = 0;
            return 0;
        }
        if (!world.now.sea.hasCell(cell) || !isDay(day) || !within(height, 0, 99) || world.heights >= MOST_TOLD) {
            return -2;
        }
        world.addHeight(cell, day, height);
        return world.heights;
    }

    public int winds(int train, int what) {
        if (train < 0 || train >= world.now.sea.trains || !within(what, 0, 3)) {
            return NONE;
        }
        finder.findWinds(world, train);
        switch (what) {
            case 0: return finder.windCount;
            case 1: return finder.firstLag;
            case 2: return finder.firstShift;
            default: return finder.lagBits;
        }
    }

    public int rent(int town, int day, int n) {
        Moment now = world.now;
        if (!within(town, 0, MOST_OF_A_KIND - 1) || !now.sea.hasPlace(MOST_OF_A_KIND + town)) {
            return NONE;
        }
        if (!isDay(day) || !within(n, 0, 400)) {
            return NONE;
        }
        int open = 0;
        for (int i = 0; i < n; i++) {
            if (now.isOpen(MOST_OF_A_KIND + town, day + i)) {
                open++;
            }
        }
        return open * now.sea.placeCoins[MOST_OF_A_KIND + town];
    }

    public int fleet(int days, int due, int spoil) {
        Fleet fleet = world.fleet;
        if (days == NONE) {
            fleet.size = 0;
            return 0;
        }
        if (!world.now.sea.isThere() || fleet.size >= MOST_FLEET) {
            return -2;
        }
        if (!within(days, 1, 99) || !within(due, 0, 99) || !within(spoil, 0, 99)) {
            return -2;
        }
        fleet.add(days, due, spoil);
        return fleet.size;
    }

    public int order(int what) {
        if (!world.now.sea.isThere() || !within(what, 0, MOST_FLEET)) {
            return NONE;
        }
        if (what > world.fleet.size) {
            return -2;
        }
        world.fleet.weigh();
        return what == 0 ? world.fleet.least[0] : world.fleet.sailsAt(what);
    }

    public long storms(int n, int k, int part) {
        Sea sea = world.now.sea;
        if (!sea.isThere() || !within(n, 0, 12) || !within(k, 0, 13) || !within(part, 0, 1)) {
            return NONE;
        }
        long above = 0;
        for (int i = k; i <= n; i++) {
            above += choices(n, i) * power(sea.odds, i) * power(sea.of - sea.odds, n - i);
        }
        return lowest(above, power(sea.of, n), part);
    }

    public int seed(int x) {
        if (x < 0) {
            return NONE;
        }
        int was = world.x;
        world.x = x;
        return was;
    }

    public int drawn(int rule, int m, int n, int what) {
        if (!world.now.sea.isThere() || !hasRule(rule)) {
            return NONE;
        }
        if (!within(m, 1, 10) || !within(n, 1, 100) || !within(what, 0, 2)) {
            return NONE;
        }
        crew.startDraws(world.x);
        for (int i = 0; i < m; i++) {
            crew.drawOnce(world.now, rules[rule], n);
        }
        switch (what) {
            case 0: return crew.drySum;
            case 1: return crew.coinSum;
            default: return crew.stormSum;
        }
    }

    public int count(int what) {
        Moment now = world.now;
        switch (what) {
            case 0: return now.sea.cells;
            case 1: return now.sea.trains;
            case 2: return now.sea.wells;
            case 3: return now.sea.towns;
            case 4: return now.sea.ships;
            case 5: return ruleCount;
            case 6: return now.day;
            case 7: return now.fences;
            case 8: return now.diggings;
            case 9: return world.acts;
            case 10: return world.sights;
            case 11: return world.heights;
            case 12: return world.fleet.size;
            case 13: return now.dryShips();
            case 14: return now.sea.odds;
            case 15: return now.sea.isThere() ? now.sea.of : NONE;
            case 16: return world.x;
            case 17: return tape.length;
            default: return NONE;
        }
    }

    public int image(int k) {
        if (!within(k, 0, MOST_IMAGES - 1)) {
            return NONE;
        }
        if (images[k] == null) {
            images[k] = new World(noSea);
        }
        images[k].copyFrom(world);
        return world.now.day;
    }

    public int back(int k) {
        if (!within(k, 0, MOST_IMAGES - 1) || images[k] == null) {
            return NONE;
        }
        world.copyFrom(images[k]);
        return world.now.day;
    }

    private boolean hasRule(int number) {
        return number >= 0 && number < ruleCount;
    }

    private static boolean within(int number, int low, int high) {
        return number >= low && number <= high;
    }

    private static boolean isDay(int day) {
        return day >= 0 && day <= LAST_DAY;
    }

    private static long common(long a, long b) {
        long high = a;
        long low = b;
        // Numbers of 64 bits need fewer than 100 steps.
        for (int i = 0; low != 0 && i < 100; i++) {
            long rest = high % low;
            high = low;
            low = rest;
        }
        return high;
    }

    /** What stands above (part 0) or below the line of a fraction in lowest terms. */
    private static long lowest(long above, long below, int part) {
        long common = common(above, below);
        if (common == 0) {
            return NONE;
        }
        return part == 0 ? above / common : below / common;
    }

    private static long power(long base, int times) {
        long result = 1;
        for (int i = 0; i < times; i++) {
            result *= base;
        }
        return result;
    }

    /** In how many ways k of n can be chosen. */
    private static long choices(int n, int k) {
        long result = 1;
        for (int i = 0; i < k; i++) {
            result = result * (n - i) / (i + 1);
        }
        return result;
    }

    /** The bytes that were fed; when they are read, cut into tokens, with a mark at the one that is next. */
    private static final class Tape {
        private static final int END = 0;
        private static final int WORD = 1;
        private static final int NUMBER = 2;
        private static final int SIGN = 3;
        private static final int MOST_DIGITS = 5;

        final int[] bytes = new int[TAPE_ROOM];
        int length;
        int fault;
        // One token a byte at most, and the end.
        private final int[] kinds = new int[TAPE_ROOM + 1];
        private final int[] places = new int[TAPE_ROOM + 1];
        private final int[] values = new int[TAPE_ROOM + 1];
        private int tokens;
        private int mark;

        void addFour(int number) {
            for (int shift = 24; shift >= 0 && length < TAPE_ROOM; shift -= 8) {
                bytes[length] = number >>> shift & 255;
                length++;
            }
        }

        void cut() {
            tokens = 0;
            mark = 0;
            fault = 0;
            for (int i = 0; i < length; i++) {
                if (bytes[i] != ' ') {
                    i += cutToken(i);
                }
            }
            addToken(END, length, 0);
        }

        /** Answers how many bytes the token has behind its first. */
        private int cutToken(int from) {
            int first = bytes[from];
            if (isLetter(first)) {
                int to = lettersEnd(from);
                addToken(WORD, from, wordNumber(from, to));
                return to - from - 1;
            }
            if (isDigit(first)) {
                int to = digitsEnd(from);
                addToken(NUMBER, from, numberOf(from, to));
                return to - from - 1;
            }
            boolean isDouble = (first == '<' || first == '>') && from + 1 < length && bytes[from + 1] == '=';
            addToken(SIGN, from, isDouble ? first + OR_EQUAL : first);
            return isDouble ? 1 : 0;
        }

        private void addToken(int kind, int place, int value) {
            if (tokens < kinds.length) {
                kinds[tokens] = kind;
                places[tokens] = place;
                values[tokens] = value;
                tokens++;
            }
        }

        private static boolean isLetter(int sign) {
            return sign >= 'a' && sign <= 'z';
        }

        private static boolean isDigit(int sign) {
            return sign >= '0' && sign <= '9';
        }

        private int lettersEnd(int from) {
            int to = from;
            while (to < length && isLetter(bytes[to])) {
                to++;
            }
            return to;
        }

        private int digitsEnd(int from) {
            int to = from;
            while (to < length && isDigit(bytes[to])) {
                to++;
            }
            return to;
        }

        /** NONE for more digits than a number may have: that is below all that any number may be. */
        private int numberOf(int from, int to) {
            if (to - from > MOST_DIGITS) {
                return NONE;
            }
            int number = 0;
            for (int i = from; i < to; i++) {
                number = number * 10 + bytes[i] - '0';
            }
            return number;
        }

        private int wordNumber(int from, int to) {
            if (to - from > WORD_SIGNS) {
                return NONE;
            }
            for (int word = 0; word < WORD_COUNT; word++) {
                if (isWord(word, from, to)) {
                    return word;
                }
            }
            return NONE;
        }

        private boolean isWord(int word, int from, int to) {
            for (int i = 0; i < WORD_SIGNS; i++) {
                int sign = from + i < to ? bytes[from + i] : ' ';
                if (WORDS.charAt(word * WORD_SIGNS + i) != sign) {
                    return false;
                }
            }
            return true;
        }

        /** A fault at the mark; reading goes along the text, so the first one stays. */
        void fail(int kind) {
            if (fault == 0) {
                fault = 1 + 8 * places[mark] + kind;
            }
        }

        void step() {
            if (mark < tokens - 1) {
                mark++;
            }
        }

        boolean atNumber() {
            return kinds[mark] == NUMBER;
        }

        int numberHere() {
            return values[mark];
        }

        int wordHere() {
            return kinds[mark] == WORD ? values[mark] : NONE;
        }

        int signHere() {
            return kinds[mark] == SIGN ? values[mark] : NONE;
        }

        int placeHere() {
            return places[mark];
        }

        int digitsHere() {
            return atNumber() ? digitsEnd(places[mark]) - places[mark] : 0;
        }

        int takeNumber(int low, int high) {
            if (!atNumber()) {
                fail(NOT_HERE);
                return low;
            }
            int number = values[mark];
            if (number < low || number > high) {
                fail(NOT_AS_TOLD);
                return low;
            }
            // Behind a fault the mark stays, so that no later number is taken for another one.
            if (fault == 0) {
                step();
            }
            return number;
        }

        void takeSign(int sign) {
            if (signHere() == sign) {
                step();
            } else {
                fail(NOT_HERE);
            }
        }

        /** Behind a clause: whether another one comes. */
        boolean goesOn() {
            if (fault != 0 || kinds[mark] == END) {
                return false;
            }
            takeSign(';');
            return fault == 0;
        }
    }

    /** What a SEA tells; never changed once it is read, so that moments and images may share it. */
    private static final class Sea {
        /** 0: there is no sea. */
        int cells;
        int trains;
        int wells;
        int towns;
        int ships;
        final int[] lag = new int[MOST_TRAINS];
        final int[] shift = new int[MOST_TRAINS];
        final int[] period = new int[MOST_TRAINS];
        final int[] greatest = new int[MOST_TRAINS];
        private final int[] rows = new int[MOST_TRAINS * MOST_ROW];
        final int[] ground = new int[MOST_CELLS];
        final int[] placeCell = new int[MOST_PLACES];
        final int[] placeLimit = new int[MOST_PLACES];
        final int[] placeCoins = new int[MOST_PLACES];
        final int[] shipCell = new int[MOST_OF_A_KIND];
        final int[] tank = new int[MOST_OF_A_KIND];
        final int[] climb = new int[MOST_OF_A_KIND];
        int odds;
        int of = 1;
        int round = 1;

        /** As new: a text that had a fault may have left something. */
        void clear() {
            cells = 0;
            trains = 0;
            wells = 0;
            towns = 0;
            ships = 0;
            odds = 0;
            of = 1;
            round = 1;
            Arrays.fill(ground, 0);
        }

        boolean isThere() {
            return cells > 0;
        }

        boolean hasCell(int cell) {
            return cell >= 0 && cell < cells;
        }

        boolean hasShip(int ship) {
            return ship >= 0 && ship < ships;
        }

        boolean hasPlace(int place) {
            if (place < MOST_OF_A_KIND) {
                return place >= 0 && place < wells;
            }
            return place - MOST_OF_A_KIND < towns;
        }

        boolean hasPlaces(int bits) {
            if (bits < 0 || bits >= 1 << MOST_PLACES) {
                return false;
            }
            for (int place = 0; place < MOST_PLACES; place++) {
                if ((bits >> place & 1) != 0 && !hasPlace(place)) {
                    return false;
                }
            }
            return true;
        }

        void addTrain(int itsLag, int itsShift, int itsPeriod) {
            lag[trains] = itsLag;
            shift[trains] = itsShift;
            period[trains] = itsPeriod;
            greatest[trains] = 0;
            trains++;
            int common = (int) common(round, itsPeriod);
            if (common > 0) {
                round = round / common * itsPeriod;
            }
        }

        void setRow(int train, int at, int height) {
            rows[train * MOST_ROW + at] = height;
            greatest[train] = Math.max(greatest[train], height);
        }

        int rowAt(int train, int at) {
            return rows[train * MOST_ROW + at];
        }

        /** A TRAIN's height, if its LAG and SHIFT were these. */
        int waveBy(int train, int itsLag, int itsShift, int cell, int day) {
            int itsPeriod = period[train];
            if (itsPeriod <= 0) {
                return 0;
            }
            int at = (day + itsShift - itsLag * cell) % itsPeriod;
            return rows[train * MOST_ROW + (at < 0 ? at + itsPeriod : at)];
        }

        int wave(int train, int cell, int day) {
            return waveBy(train, lag[train], shift[train], cell, day);
        }

        /** HEIGHT without FENCES and DIGGINGS. */
        int sand(int cell, int day) {
            int sum = ground[cell];
            for (int train = 0; train < trains; train++) {
                sum += waveBy(train, lag[train], shift[train], cell, day);
            }
            return sum;
        }

        /** What FENCES (as bits) add to a CELL. */
        static int drift(int fences, int cell) {
            int ahead = fences << 1 >> cell & 1;
            int here = fences >> cell & 1;
            return FENCE_SAND * (ahead - here);
        }

        /** HEIGHT without DIGGINGS, if FENCES were these. */
        int levelBy(int fences, int cell, int day) {
            return Math.max(0, sand(cell, day) + drift(fences, cell));
        }

        boolean isOpenBy(int fences, int place, int day) {
            return levelBy(fences, placeCell[place], day) <= placeLimit[place];
        }
    }

    /** Reads the tape as a SEA. */
    private static final class SeaReader {
        private static final int MOST_CLAUSES = 40;

        private final Tape tape;
        private Sea sea;
        private boolean hasStorm;

        SeaReader(Tape tape) {
            this.tape = tape;
        }

        /** Answers the FAULT, 0 for none. */
        int read(Sea into) {
            sea = into;
            sea.clear();
            hasStorm = false;
            tape.cut();
            boolean more = true;
            for (int clause = 0; more && clause <= MOST_CLAUSES; clause++) {
                readClause(clause);
                more = tape.goesOn();
            }
            return tape.fault;
        }

        private void readClause(int clause) {
            int word = tape.wordHere();
            if (word < SEA || word > STORM) {
                tape.fail(NOT_HERE);
            } else if (clause >= MOST_CLAUSES || (clause == 0) != (word == SEA) || isFull(word)) {
                tape.fail(TOO_MANY_CLAUSES);
            } else {
                tape.step();
                readNumbers(word);
            }
        }

        private boolean isFull(int word) {
            switch (word) {
                case TRAIN: return sea.trains >= MOST_TRAINS;
                case WELL: return sea.wells >= MOST_OF_A_KIND;
                case TOWN: return sea.towns >= MOST_OF_A_KIND;
                case SHIP: return sea.ships >= MOST_OF_A_KIND;
                case STORM: return hasStorm;
                default: return false;
            }
        }

        private void readNumbers(int word) {
            switch (word) {
                case SEA: sea.cells = tape.takeNumber(2, MOST_CELLS); break;
                case TRAIN: readTrain(); break;
                case GROUND: readGround(); break;
                case WELL: readPlace(sea.wells); break;
                case TOWN: readPlace(MOST_OF_A_KIND + sea.towns); break;
                case SHIP: readShip(); break;
                default: readStorm(); break;
            }
        }

        private int takeCell() {
            return tape.takeNumber(0, sea.cells - 1);
        }

        private void readTrain() {
            int lag = tape.takeNumber(0, MOST_LAG);
            int shift = tape.takeNumber(0, 29);
            int digits = tape.digitsHere();
            if (digits == 0) {
                tape.fail(NOT_HERE);
            } else if (digits < 2 || digits > MOST_ROW) {
                tape.fail(NOT_AS_TOLD);
            }
            if (tape.fault != 0) {
                return;
            }
            int train = sea.trains;
            sea.addTrain(lag, shift, digits);
            for (int i = 0; i < digits; i++) {
                sea.setRow(train, i, tape.bytes[tape.placeHere() + i] - '0');
            }
            tape.step();
        }

        private void readGround() {
            int cell = takeCell();
            int height = tape.takeNumber(0, 20);
            if (tape.fault == 0) {
                sea.ground[cell] = height;
            }
        }

        private void readPlace(int place) {
            int cell = takeCell();
            int limit = tape.takeNumber(0, 60);
            int coins = tape.takeNumber(1, 99);
            if (tape.fault != 0) {
                return;
            }
            sea.placeCell[place] = cell;
            sea.placeLimit[place] = limit;
            sea.placeCoins[place] = coins;
            if (place < MOST_OF_A_KIND) {
                sea.wells++;
            } else {
                sea.towns++;
            }
        }

        private void readShip() {
            int cell = takeCell();
            int tank = tape.takeNumber(1, MOST_TANK);
            int climb = tape.takeNumber(0, 20);
            if (tape.fault != 0) {
                return;
            }
            sea.shipCell[sea.ships] = cell;
            sea.tank[sea.ships] = tank;
            sea.climb[sea.ships] = climb;
            sea.ships++;
        }

        private void readStorm() {
            int odds = tape.takeNumber(0, 9);
            int of = tape.takeNumber(Math.max(1, odds), 9);
            sea.odds = odds;
            sea.of = of;
            hasStorm = true;
        }
    }

    /** A RULE as code in which what works on values stands behind them. */
    private static final class Rule {
        static final int MOST_CLAUSES = 12;

        // Each piece of code comes from a token of its own.
        final int[] code = new int[TAPE_ROOM];
        int size;
        int clauses;
        final int[] sumFrom = new int[MOST_CLAUSES];
        final int[] testFrom = new int[MOST_CLAUSES];
        final int[] testTo = new int[MOST_CLAUSES];

        void clear() {
            size = 0;
            clauses = 0;
        }

        void add(int piece) {
            if (size < code.length) {
                code[size] = piece;
                size++;
            }
        }

        boolean isFill(int clause) {
            return sumFrom[clause] == testFrom[clause];
        }

        boolean hasTest(int clause) {
            return testFrom[clause] < testTo[clause];
        }
    }

    /** Reads the tape as a RULE. */
    private static final class RuleReader {
        private static final int MOST_DEPTH = 10;
        private static final int MOST_PARTS = 60;

        private final Tape tape;
        private Rule rule;
        private int parts;

        RuleReader(Tape tape) {
            this.tape = tape;
        }

        /** Answers the FAULT, 0 for none. */
        int read(Rule into) {
            rule = into;
            rule.clear();
            parts = 0;
            tape.cut();
            boolean more = true;
            for (int clause = 0; more && clause <= Rule.MOST_CLAUSES; clause++) {
                readClause(clause);
                more = tape.goesOn();
            }
            return tape.fault;
        }

        private void readClause(int clause) {
            int word = tape.wordHere();
            if (word != GO && word != FILL) {
                tape.fail(NOT_HERE);
                return;
            }
            if (clause >= Rule.MOST_CLAUSES) {
                tape.fail(TOO_MANY_CLAUSES);
                return;
            }
            tape.step();
            rule.sumFrom[clause] = rule.size;
            if (word == GO) {
                readSum();
            }
            rule.testFrom[clause] = rule.size;
            if (word == FILL) {
                readTest(0);
            } else if (tape.fault == 0 && tape.wordHere() == IF) {
                tape.step();
                readTest(0);
            }
            rule.testTo[clause] = rule.size;
            rule.clauses = clause + 1;
        }

        /** FACTS by and and or; what and joins is closed ahead of what or joins. */
        private void readTest(int depth) {
            boolean and = false;
            boolean or = false;
            boolean more = true;
            for (int i = 0; more && i < TAPE_ROOM; i++) {
                readFact(depth);
                if (and) {
                    rule.add(AND);
                }
                and = tape.wordHere() == AND;
                if (!and) {
                    if (or) {
                        rule.add(OR);
                    }
                    or = tape.wordHere() == OR;
                }
                more = tape.fault == 0 && (and || or);
                if (more) {
                    tape.step();
                }
            }
        }

        private void readFact(int depth) {
            boolean isNot = tape.wordHere() == NOT;
            boolean opens = tape.signHere() == '[';
            if ((isNot || opens) && depth >= MOST_DEPTH) {
                tape.fail(TOO_DEEP);
            } else if (isNot) {
                tape.step();
                readFact(depth + 1);
                rule.add(NOT);
            } else if (opens) {
                tape.step();
                readTest(depth + 1);
                tape.takeSign(']');
            } else {
                readSum();
                int sign = takeComparison();
                readSum();
                rule.add(sign);
            }
        }

        private int takeComparison() {
            int sign = tape.signHere();
            if (sign != '<' && sign != '=' && sign != '>' && sign != AT_MOST && sign != AT_LEAST) {
                tape.fail(NOT_HERE);
            } else if (parts >= MOST_PARTS) {
                tape.fail(TOO_MANY_PARTS);
            } else {
                parts++;
                tape.step();
            }
            return sign;
        }

        /** VALUES by their signs; what * / % join is closed ahead of what + - join. */
        private void readSum() {
            int times = NONE;
            int plus = NONE;
            boolean more = true;
            for (int i = 0; more && i < TAPE_ROOM; i++) {
                readValue();
                if (times != NONE) {
                    rule.add(times);
                }
                times = timesHere();
                if (times == NONE) {
                    if (plus != NONE) {
                        rule.add(plus);
                    }
                    plus = plusHere();
                }
                more = tape.fault == 0 && (times != NONE || plus != NONE);
                if (more) {
                    tape.step();
                }
            }
        }

        private int timesHere() {
            int sign = tape.signHere();
            return sign == '*' || sign == '/' || sign == '%' ? sign : NONE;
        }

        private int plusHere() {
            int sign = tape.signHere();
            return sign == '+' || sign == '-' ? sign : NONE;
        }

        private void readValue() {
            boolean isNumber = tape.atNumber();
            int word = tape.wordHere();
            if (!isNumber && !isValueWord(word)) {
                tape.fail(NOT_HERE);
            } else if (isNumber && tape.numberHere() < 0) {
                tape.fail(NOT_AS_TOLD);
            } else if (parts >= MOST_PARTS) {
                tape.fail(TOO_MANY_PARTS);
            } else {
                rule.add(isNumber ? NUMBERS + tape.numberHere() : word);
                parts++;
                tape.step();
            }
        }

        static boolean isValueWord(int word) {
            return word == WELL || word == SHIP || word >= CELL;
        }
    }

    /** All that ACTS change; an ACT is UNDONE by going back to one of these. */
    private static final class Moment {
        Sea sea;
        int day;
        /** As bits. */
        int fences;
        final int[] cell = new int[MOST_OF_A_KIND];
        final int[] water = new int[MOST_OF_A_KIND];
        final int[] paid = new int[MOST_OF_A_KIND];
        final int[] dryOn = new int[MOST_OF_A_KIND];
        int diggings;
        private final int[] digCell = new int[MOST_DIGGINGS];
        private final int[] digBy = new int[MOST_DIGGINGS];
        private final int[] digFirst = new int[MOST_DIGGINGS];
        private final int[] digLast = new int[MOST_DIGGINGS];

        Moment(Sea sea) {
            this.sea = sea;
        }

        void copyFrom(Moment other) {
            sea = other.sea;
            day = other.day;
            fences = other.fences;
            System.arraycopy(other.cell, 0, cell, 0, MOST_OF_A_KIND);
            System.arraycopy(other.water, 0, water, 0, MOST_OF_A_KIND);
            System.arraycopy(other.paid, 0, paid, 0, MOST_OF_A_KIND);
            System.arraycopy(other.dryOn, 0, dryOn, 0, MOST_OF_A_KIND);
            diggings = other.diggings;
            System.arraycopy(other.digCell, 0, digCell, 0, MOST_DIGGINGS);
            System.arraycopy(other.digBy, 0, digBy, 0, MOST_DIGGINGS);
            System.arraycopy(other.digFirst, 0, digFirst, 0, MOST_DIGGINGS);
            System.arraycopy(other.digLast, 0, digLast, 0, MOST_DIGGINGS);
        }

        void startOn(Sea newSea) {
            sea = newSea;
            day = 0;
            fences = 0;
            diggings = 0;
            System.arraycopy(sea.shipCell, 0, cell, 0, MOST_OF_A_KIND);
            System.arraycopy(sea.tank, 0, water, 0, MOST_OF_A_KIND);
            Arrays.fill(paid, 0);
            Arrays.fill(dryOn, NONE);
        }

        int level(int ofCell, int onDay) {
            int sum = sea.sand(ofCell, onDay) + Sea.drift(fences, ofCell);
            for (int i = 0; i < diggings; i++) {
                if (digCell[i] == ofCell && digFirst[i] <= onDay && onDay <= digLast[i]) {
                    sum -= digBy[i];
                }
            }
            return Math.max(0, sum);
        }

        boolean isOpen(int place, int onDay) {
            return level(sea.placeCell[place], onDay) <= sea.placeLimit[place];
        }

        /** The least dear WELL that is OPEN in a CELL now; NONE without. */
        int wellOf(int ofCell) {
            int best = NONE;
            int height = level(ofCell, day);
            for (int well = 0; well < sea.wells; well++) {
                boolean isOpen = sea.placeCell[well] == ofCell && height <= sea.placeLimit[well];
                if (isOpen && (best == NONE || sea.placeCoins[well] < sea.placeCoins[best])) {
                    best = well;
                }
            }
            return best;
        }

        boolean isDry(int ship) {
            return dryOn[ship] != NONE;
        }

        int dryShips() {
            int sum = 0;
            for (int ship = 0; ship < sea.ships; ship++) {
                sum += isDry(ship) ? 1 : 0;
            }
            return sum;
        }

        int coinsPaid() {
            int sum = 0;
            for (int ship = 0; ship < sea.ships; ship++) {
                sum += paid[ship];
            }
            return sum;
        }

        /** Whether a SHIP that is not DRY can GO to the CELL beside. */
        boolean mayGo(int ship, int way) {
            int to = cell[ship] + way;
            if (water[ship] <= 0 || way != 1 && way != -1 || !sea.hasCell(to)) {
                return false;
            }
            return level(to, day + 1) <= level(cell[ship], day) + sea.climb[ship];
        }

        /** Answers the coins. */
        int fillFrom(int well, int ship) {
            int coins = (sea.tank[ship] - water[ship]) * sea.placeCoins[well];
            water[ship] = sea.tank[ship];
            paid[ship] += coins;
            return coins;
        }

        void addDigging(int ofCell, int by, int days) {
            if (diggings < MOST_DIGGINGS) {
                digCell[diggings] = ofCell;
                digBy[diggings] = by;
                digFirst[diggings] = day;
                digLast[diggings] = day + days - 1;
                diggings++;
            }
        }

        /** A DAY by which each SHIP goes its way (0: it stays). */
        void passDay(int[] ways) {
            for (int ship = 0; ship < sea.ships; ship++) {
                if (isDry(ship)) {
                    continue;
                }
                if (water[ship] <= 0) {
                    dryOn[ship] = day;
                } else {
                    water[ship]--;
                    cell[ship] += ways[ship];
                }
            }
            day++;
            dropOldDiggings();
        }

        private void dropOldDiggings() {
            int kept = 0;
            for (int i = 0; i < diggings; i++) {
                if (digLast[i] >= day) {
                    digCell[kept] = digCell[i];
                    digBy[kept] = digBy[i];
                    digFirst[kept] = digFirst[i];
                    digLast[kept] = digLast[i];
                    kept++;
                }
            }
            diggings = kept;
        }

        void storm() {
            for (int ship = 0; ship < sea.ships; ship++) {
                if (!isDry(ship) && water[ship] > 0) {
                    water[ship]--;
                }
            }
        }
    }

    /** All that an IMAGE holds. */
    private static final class World {
        final Moment now;
        private final Moment[] past = new Moment[MOST_ACTS];
        /** ACTS that can be UNDONE. */
        int acts;
        int sights;
        final int[] sightDay = new int[MOST_TOLD];
        final int[] sightShowed = new int[MOST_TOLD];
        int heights;
        final int[] toldCell = new int[MOST_TOLD];
        final int[] toldDay = new int[MOST_TOLD];
        final int[] toldHeight = new int[MOST_TOLD];
        final Fleet fleet = new Fleet();
        int x;

        World(Sea sea) {
            now = new Moment(sea);
            for (int i = 0; i < MOST_ACTS; i++) {
                past[i] = new Moment(sea);
            }
        }

        void startOn(Sea sea) {
            now.startOn(sea);
            acts = 0;
            sights = 0;
            heights = 0;
            fleet.size = 0;
        }

        void copyFrom(World other) {
            now.copyFrom(other.now);
            acts = other.acts;
            for (int i = 0; i < acts; i++) {
                past[i].copyFrom(other.past[i]);
            }
            sights = other.sights;
            System.arraycopy(other.sightDay, 0, sightDay, 0, MOST_TOLD);
            System.arraycopy(other.sightShowed, 0, sightShowed, 0, MOST_TOLD);
            heights = other.heights;
            System.arraycopy(other.toldCell, 0, toldCell, 0, MOST_TOLD);
            System.arraycopy(other.toldDay, 0, toldDay, 0, MOST_TOLD);
            System.arraycopy(other.toldHeight, 0, toldHeight, 0, MOST_TOLD);
            fleet.copyFrom(other.fleet);
            x = other.x;
        }

        /** Ahead of an ACT. */
        void remember() {
            if (acts >= MOST_ACTS) {
                Moment oldest = past[0];
                for (int i = 1; i < MOST_ACTS; i++) {
                    past[i - 1] = past[i];
                }
                past[MOST_ACTS - 1] = oldest;
                acts = MOST_ACTS - 1;
            }
            past[acts].copyFrom(now);
            acts++;
        }

        /** Goes back to ahead of the last ACT; false if none can be UNDONE. */
        boolean forgetLast() {
            if (acts <= 0) {
                return false;
            }
            acts--;
            now.copyFrom(past[acts]);
            return true;
        }

        void addSight(int day, boolean showed) {
            if (sights < MOST_TOLD) {
                sightDay[sights] = day;
                sightShowed[sights] = showed ? 1 : 0;
                sights++;
            }
        }

        void addHeight(int cell, int day, int height) {
            if (heights < MOST_TOLD) {
                toldCell[heights] = cell;
                toldDay[heights] = day;
                toldHeight[heights] = height;
                heights++;
            }
        }
    }

    /** Those told to sail one behind the other, and the row that is least dear. */
    private static final class Fleet {
        private static final int NO_ROW = 2147483647;

        int size;
        private final int[] days = new int[MOST_FLEET];
        private final int[] due = new int[MOST_FLEET];
        private final int[] spoil = new int[MOST_FLEET];
        /** By the set of those ahead: the least DUES of all others. */
        final int[] least = new int[1 << MOST_FLEET];

        void add(int itsDays, int itsDue, int itsSpoil) {
            if (size < MOST_FLEET) {
                days[size] = itsDays;
                due[size] = itsDue;
                spoil[size] = itsSpoil;
                size++;
            }
        }

        void copyFrom(Fleet other) {
            size = other.size;
            System.arraycopy(other.days, 0, days, 0, MOST_FLEET);
            System.arraycopy(other.due, 0, due, 0, MOST_FLEET);
            System.arraycopy(other.spoil, 0, spoil, 0, MOST_FLEET);
        }

        /** A set has a greater number than each of its parts, so the greatest comes first. */
        void weigh() {
            int all = (1 << size) - 1;
            least[all] = 0;
            for (int ahead = all - 1; ahead >= 0; ahead--) {
                least[ahead] = NO_ROW;
                for (int who = 0; who < size; who++) {
                    if ((ahead >> who & 1) == 0) {
                        least[ahead] = Math.min(least[ahead], duesWith(ahead, who));
                    }
                }
            }
        }

        /** The least DUES of all that are not ahead, if this one comes next. */
        private int duesWith(int ahead, int who) {
            int until = days[who];
            for (int other = 0; other < size; other++) {
                if ((ahead >> other & 1) != 0) {
                    until += spoil[other];
                }
            }
            return due[who] * until + least[ahead | 1 << who];
        }

        /** Who is in that place (1 and on) of the first row that is least dear; weigh comes first. */
        int sailsAt(int place) {
            int ahead = 0;
            int last = NONE;
            for (int i = 0; i < place && i < size; i++) {
                last = nextBehind(ahead);
                ahead |= 1 << last;
            }
            return last;
        }

        private int nextBehind(int ahead) {
            for (int who = 0; who < size; who++) {
                if ((ahead >> who & 1) == 0 && duesWith(ahead, who) == least[ahead]) {
                    return who;
                }
            }
            return 0;
        }
    }

    /** DAYS by a RULE, and DRAWS of them. */
    private static final class Crew {
        // Ten brackets deep leave fewer than thirty values open.
        private final long[] stack = new long[64];
        private final long[] words = new long[WORD_COUNT];
        private final int[] ways = new int[MOST_OF_A_KIND];
        private final Moment trial;
        private int openWell;
        private long x;
        int drySum;
        int coinSum;
        int stormSum;

        Crew(Sea sea) {
            trial = new Moment(sea);
        }

        void passDay(Moment moment, Rule rule) {
            for (int ship = 0; ship < moment.sea.ships; ship++) {
                ways[ship] = 0;
                if (!moment.isDry(ship)) {
                    tellWords(moment, ship);
                    fillBy(moment, rule, ship);
                    ways[ship] = wayBy(moment, rule, ship);
                }
            }
            moment.passDay(ways);
        }

        private void tellWords(Moment moment, int ship) {
            Sea sea = moment.sea;
            int cell = moment.cell[ship];
            int tomorrow = moment.day + 1;
            openWell = moment.wellOf(cell);
            words[SHIP] = ship;
            words[CELL] = cell;
            words[DAY] = moment.day;
            words[WATER] = moment.water[ship];
            words[TANK] = sea.tank[ship];
            words[HEIGHT] = moment.level(cell, moment.day);
            words[BACK] = sea.hasCell(cell - 1) ? moment.level(cell - 1, tomorrow) : NO_CELL_HEIGHT;
            words[ON] = sea.hasCell(cell + 1) ? moment.level(cell + 1, tomorrow) : NO_CELL_HEIGHT;
            words[WELL] = openWell == NONE ? 0 : 1;
            words[PRICE] = openWell == NONE ? 0 : sea.placeCoins[openWell];
            words[PAID] = moment.paid[ship];
        }

        private void fillBy(Moment moment, Rule rule, int ship) {
            for (int clause = 0; openWell != NONE && clause < rule.clauses; clause++) {
                if (rule.isFill(clause) && testHolds(rule, clause)) {
                    moment.fillFrom(openWell, ship);
                    // Its way is told by what it has then.
                    words[WATER] = moment.water[ship];
                    words[PAID] = moment.paid[ship];
                    return;
                }
            }
        }

        private int wayBy(Moment moment, Rule rule, int ship) {
            for (int clause = 0; clause < rule.clauses; clause++) {
                if (!rule.isFill(clause) && (!rule.hasTest(clause) || testHolds(rule, clause))) {
                    long sum = worth(rule, rule.sumFrom[clause], rule.testFrom[clause]);
                    if (sum != 1 && sum != -1) {
                        return 0;
                    }
                    return moment.mayGo(ship, (int) sum) ? (int) sum : 0;
                }
            }
            return 0;
        }

        private boolean testHolds(Rule rule, int clause) {
            return worth(rule, rule.testFrom[clause], rule.testTo[clause]) != 0;
        }

        private long worth(Rule rule, int from, int to) {
            int top = 0;
            for (int i = from; i < to; i++) {
                int piece = rule.code[i];
                if (piece >= NUMBERS || RuleReader.isValueWord(piece) && piece < WORD_COUNT) {
                    if (top < stack.length) {
                        stack[top] = piece >= NUMBERS ? piece - NUMBERS : words[piece];
                        top++;
                    }
                } else if (piece == NOT) {
                    if (top > 0) {
                        stack[top - 1] = stack[top - 1] == 0 ? 1 : 0;
                    }
                } else if (top > 1) {
                    top--;
                    stack[top - 1] = joined(piece, stack[top - 1], stack[top]);
                }
            }
            return top > 0 ? stack[0] : 0;
        }

        private static long joined(int sign, long a, long b) {
            switch (sign) {
                case '+': return a + b;
                case '-': return a - b;
                case '*': return a * b;
                case '/': return b == 0 ? 0 : a / b;
                case '%': return b == 0 ? 0 : a % b;
                case '<': return a < b ? 1 : 0;
                case AT_MOST: return a <= b ? 1 : 0;
                case '=': return a == b ? 1 : 0;
                case AT_LEAST: return a >= b ? 1 : 0;
                case '>': return a > b ? 1 : 0;
                case AND: return a & b;
                default: return a | b;
            }
        }

        void startDraws(int seed) {
            x = seed;
            drySum = 0;
            coinSum = 0;
            stormSum = 0;
        }

        void drawOnce(Moment from, Rule rule, int days) {
            trial.copyFrom(from);
            for (int i = 0; i < days; i++) {
                passDay(trial, rule);
                if (nextDraw() % Math.max(1, from.sea.of) < from.sea.odds) {
                    trial.storm();
                    stormSum++;
                }
            }
            drySum += trial.dryShips();
            coinSum += trial.coinsPaid() - from.coinsPaid();
        }

        private long nextDraw() {
            x = (x * 1103515245L + 12345L) % 2147483648L;
            return x / 65536L;
        }
    }

    /** Voyages: first how soon, by the most WATER that can be had; then how dear, by all WATER that can be left. */
    private static final class Pilot {
        private static final int WATERS = MOST_TANK + 1;
        private static final int STATES = MOST_CELLS * WATERS;
        private static final int NO_WAY = 2147483647;
        // Coins, the first going and whether it fills first in one number: less is better.
        private static final int COIN = 6;

        private Moment moment;
        private int ship;
        private int tank;
        private final int[] today = new int[MOST_CELLS];
        private final int[] tomorrow = new int[MOST_CELLS];
        private final int[] price = new int[MOST_CELLS];
        private int[] most = new int[MOST_CELLS];
        private int[] nextMost = new int[MOST_CELLS];
        private int[] dear = new int[STATES];
        private int[] nextDear = new int[STATES];

        static int coinsOf(int best) {
            return best / COIN;
        }

        static int goingOf(int best) {
            return best % COIN / 2 - 1;
        }

        static int fillOf(int best) {
            return best % 2;
        }

        /** Answers the DAYS from now on, NONE if it can't be there. */
        int soonest(Moment from, int itsShip, int cell) {
            start(from, itsShip);
            Arrays.fill(most, NONE);
            most[moment.cell[ship]] = moment.water[ship];
            for (int days = 0; days < VOYAGE_DAYS; days++) {
                if (most[cell] != NONE) {
                    return days;
                }
                lookAt(moment.day + days);
                if (!passMost()) {
                    return NONE;
                }
            }
            return most[cell] != NONE ? VOYAGE_DAYS : NONE;
        }

        /** The best of all ways that take so many DAYS (1 and on). */
        int leastDear(Moment from, int itsShip, int cell, int days) {
            start(from, itsShip);
            lookAt(moment.day);
            passFirst();
            for (int i = 1; i < days; i++) {
                lookAt(moment.day + i);
                fillDear();
                passDear();
            }
            int best = NO_WAY;
            for (int water = 0; water <= tank; water++) {
                best = Math.min(best, dear[cell * WATERS + water]);
            }
            return best;
        }

        private void start(Moment from, int itsShip) {
            moment = from;
            ship = itsShip;
            tank = moment.sea.tank[ship];
            for (int cell = 0; cell < moment.sea.cells; cell++) {
                tomorrow[cell] = moment.level(cell, moment.day);
            }
        }

        /** DAYS are looked at one behind the other, so what was tomorrow is today. */
        private void lookAt(int day) {
            Sea sea = moment.sea;
            for (int cell = 0; cell < sea.cells; cell++) {
                today[cell] = tomorrow[cell];
                tomorrow[cell] = moment.level(cell, day + 1);
                price[cell] = 0;
            }
            for (int well = 0; well < sea.wells; well++) {
                int cell = sea.placeCell[well];
                boolean isLess = price[cell] == 0 || sea.placeCoins[well] < price[cell];
                if (today[cell] <= sea.placeLimit[well] && isLess) {
                    price[cell] = sea.placeCoins[well];
                }
            }
        }

        private boolean canPass(int cell, int way) {
            int to = cell + way;
            if (way == 0) {
                return true;
            }
            return moment.sea.hasCell(to) && tomorrow[to] <= today[cell] + moment.sea.climb[ship];
        }

        /** Answers whether it can be anywhere then. */
        private boolean passMost() {
            boolean any = false;
            Arrays.fill(nextMost, NONE);
            for (int cell = 0; cell < moment.sea.cells; cell++) {
                int water = most[cell] != NONE && price[cell] > 0 ? tank : most[cell];
                for (int way = -1; water > 0 && way <= 1; way++) {
                    if (canPass(cell, way)) {
                        nextMost[cell + way] = Math.max(nextMost[cell + way], water - 1);
                        any = true;
                    }
                }
            }
            int[] old = most;
            most = nextMost;
            nextMost = old;
            return any;
        }

        private void passFirst() {
            int cell = moment.cell[ship];
            int water = moment.water[ship];
            Arrays.fill(dear, NO_WAY);
            for (int way = -1; way <= 1; way++) {
                if (!canPass(cell, way)) {
                    continue;
                }
                int at = (cell + way) * WATERS;
                int first = (way + 1) * 2;
                // A full tank is filled at no cost, and then not filling comes first.
                if (price[cell] > 0 && water < tank) {
                    dear[at + tank - 1] = (tank - water) * price[cell] * COIN + first + 1;
                }
                if (water > 0) {
                    dear[at + water - 1] = first;
                }
            }
        }

        private void fillDear() {
            for (int cell = 0; cell < moment.sea.cells; cell++) {
                int full = cell * WATERS + tank;
                for (int water = 0; price[cell] > 0 && water < tank; water++) {
                    int was = dear[cell * WATERS + water];
                    if (was != NO_WAY) {
                        dear[full] = Math.min(dear[full], was + (tank - water) * price[cell] * COIN);
                    }
                }
            }
        }

        private void passDear() {
            Arrays.fill(nextDear, NO_WAY);
            for (int cell = 0; cell < moment.sea.cells; cell++) {
                for (int way = -1; way <= 1; way++) {
                    if (canPass(cell, way)) {
                        passWaters(cell * WATERS, (cell + way) * WATERS);
                    }
                }
            }
            int[] old = dear;
            dear = nextDear;
            nextDear = old;
        }

        private void passWaters(int from, int to) {
            for (int water = 1; water <= tank; water++) {
                nextDear[to + water - 1] = Math.min(nextDear[to + water - 1], dear[from + water]);
            }
        }
    }

    /** What is asked of a sea without its DIGGINGS. */
    private static final class Finder {
        int windCount;
        int firstLag;
        int firstShift;
        int lagBits;

        int firstOpen(Moment now, int place, int day) {
            for (int i = 0; i < now.sea.round; i++) {
                if (now.sea.isOpenBy(now.fences, place, day + i)) {
                    return day + i;
                }
            }
            return NEVER;
        }

        int openDays(Sea sea, int fences, int place, int from, int to) {
            int sum = 0;
            for (int day = from; day <= to; day++) {
                if (sea.isOpenBy(fences, place, day)) {
                    sum++;
                }
            }
            return sum;
        }

        int firstCrest(Sea sea, int cell, int day) {
            if (sea.trains == 0) {
                return NEVER;
            }
            for (int i = 0; i < sea.round; i++) {
                if (isCrest(sea, cell, day + i)) {
                    return day + i;
                }
            }
            return NEVER;
        }

        private static boolean isCrest(Sea sea, int cell, int day) {
            for (int train = 0; train < sea.trains; train++) {
                if (sea.wave(train, cell, day) != sea.greatest[train]) {
                    return false;
                }
            }
            return true;
        }

        /** The set of CELLS for more FENCES; NEVER if it can't be. */
        int fewestFences(Moment now, int places, int from, int to) {
            int mustFall = 0;
            int mayNotRise = 0;
            for (int place = 0; place < MOST_PLACES; place++) {
                if ((places >> place & 1) == 0) {
                    continue;
                }
                int cell = now.sea.placeCell[place];
                int room = now.sea.placeLimit[place] - mostSand(now.sea, cell, from, to);
                if (room < -FENCE_SAND) {
                    return NEVER;
                }
                if (room < 0) {
                    mustFall |= 1 << cell;
                } else if (room < FENCE_SAND) {
                    mayNotRise |= 1 << cell;
                }
            }
            return leastSet(now, mustFall, mayNotRise);
        }

        private static int mostSand(Sea sea, int cell, int from, int to) {
            int most = 0;
            for (int day = from; day <= to; day++) {
                most = Math.max(most, sea.sand(cell, day));
            }
            return most;
        }

        private static int leastSet(Moment now, int mustFall, int mayNotRise) {
            int best = NEVER;
            int fewest = MOST_CELLS + 1;
            for (int more = 0; more < 1 << now.sea.cells; more++) {
                int all = now.fences | more;
                int fallen = all & ~(all << 1);
                int risen = all << 1 & ~all;
                boolean isGood = (fallen & mustFall) == mustFall && (risen & mayNotRise) == 0;
                if (isGood && (more & now.fences) == 0 && Integer.bitCount(more) < fewest) {
                    best = more;
                    fewest = Integer.bitCount(more);
                }
            }
            return best;
        }

        /** PLACES, as bits, that are OPEN on fewer of these DAYS with more FENCES. */
        int openLess(Moment now, int more, int from, int to) {
            int bits = 0;
            for (int place = 0; place < MOST_PLACES; place++) {
                if (!now.sea.hasPlace(place)) {
                    continue;
                }
                int without = openDays(now.sea, now.fences, place, from, to);
                if (openDays(now.sea, now.fences | more, place, from, to) < without) {
                    bits |= 1 << place;
                }
            }
            return bits;
        }

        /** The least MAST that all SIGHTS of it that showed leave a CELL. */
        int leastMast(World world, int cell) {
            int least = 0;
            for (int i = 0; i < world.sights; i++) {
                if (world.sightShowed[i] != 0) {
                    least = Math.max(least, undug(world.now, cell, world.sightDay[i]));
                }
            }
            return least;
        }

        /** The greatest MAST that all SIGHTS on which it did not show leave a CELL; NONE is possible. */
        int mostMast(World world, int cell) {
            int most = MOST_MAST;
            for (int i = 0; i < world.sights; i++) {
                if (world.sightShowed[i] == 0) {
                    most = Math.min(most, undug(world.now, cell, world.sightDay[i]) - 1);
                }
            }
            return most;
        }

        private static int undug(Moment now, int cell, int day) {
            return now.sea.levelBy(now.fences, cell, day);
        }

        int cellsOfWreck(World world, int mast) {
            int bits = 0;
            for (int cell = 0; cell < world.now.sea.cells; cell++) {
                if (leastMast(world, cell) <= mast && mast <= mostMast(world, cell)) {
                    bits |= 1 << cell;
                }
            }
            return bits;
        }

        int firstShown(World world, int mast, int day) {
            int bits = cellsOfWreck(world, mast);
            if (bits == 0) {
                return NEVER;
            }
            for (int i = 0; i < world.now.sea.round; i++) {
                if (showsIn(world.now, bits, mast, day + i)) {
                    return day + i;
                }
            }
            return NEVER;
        }

        private static boolean showsIn(Moment now, int bits, int mast, int day) {
            for (int cell = 0; cell < now.sea.cells; cell++) {
                if ((bits >> cell & 1) != 0 && undug(now, cell, day) > mast) {
                    return false;
                }
            }
            return true;
        }

        void findWinds(World world, int train) {
            windCount = 0;
            firstLag = NEVER;
            firstShift = NEVER;
            lagBits = 0;
            for (int lag = 0; lag <= MOST_LAG; lag++) {
                for (int shift = 0; shift < world.now.sea.period[train]; shift++) {
                    if (!fitsWind(world, train, lag, shift)) {
                        continue;
                    }
                    if (windCount == 0) {
                        firstLag = lag;
                        firstShift = shift;
                    }
                    windCount++;
                    lagBits |= 1 << lag;
                }
            }
        }

        private static boolean fitsWind(World world, int train, int lag, int shift) {
            Sea sea = world.now.sea;
            for (int i = 0; i < world.heights; i++) {
                int cell = world.toldCell[i];
                int day = world.toldDay[i];
                int others = sea.sand(cell, day) - sea.wave(train, cell, day);
                int sum = others + sea.waveBy(train, lag, shift, cell, day) + Sea.drift(world.now.fences, cell);
                if (Math.max(0, sum) != world.toldHeight[i]) {
                    return false;
                }
            }
            return true;
        }
    }
}
