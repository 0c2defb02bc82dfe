import java.math.BigInteger;
import java.util.ArrayList;
import java.util.HashMap;
import java.util.List;
import java.util.Map;

/** The document told once more, in the plainest way and by other means than DuneRoad, to compare the two. */
final class NaiveDune {
    static final class Fault extends RuntimeException {
        final int number;

        Fault(int place, int kind) {
            super(null, null, false, false);
            number = 1 + 8 * place + kind;
        }
    }

    record Train(int lag, int shift, String row) {
        int at(int cell, int day) {
            return row.charAt(Math.floorMod(day + shift - lag * cell, row.length())) - '0';
        }

        int greatest() {
            return row.chars().max().getAsInt() - '0';
        }
    }

    record Place(int cell, int limit, int coins) {
    }

    record Digging(int cell, int by, int first, int last) {
    }

    static final class Ship implements Cloneable {
        int cell;
        int water;
        int tank;
        int climb;
        int paid;
        int dryOn = -1;

        Ship copy() {
            try {
                return (Ship) clone();
            } catch (CloneNotSupportedException e) {
                throw new IllegalStateException(e);
            }
        }
    }

    static final class State {
        int cells;
        List<Train> trains = new ArrayList<>();
        Map<Integer, Integer> ground = new HashMap<>();
        List<Place> wells = new ArrayList<>();
        List<Place> towns = new ArrayList<>();
        List<Ship> ships = new ArrayList<>();
        int odds = 0;
        int of = 1;
        int day;
        int fences;
        List<Digging> diggings = new ArrayList<>();

        State copy() {
            State other = new State();
            other.cells = cells;
            other.trains = new ArrayList<>(trains);
            other.ground = new HashMap<>(ground);
            other.wells = new ArrayList<>(wells);
            other.towns = new ArrayList<>(towns);
            for (Ship ship : ships) {
                other.ships.add(ship.copy());
            }
            other.odds = odds;
            other.of = of;
            other.day = day;
            other.fences = fences;
            other.diggings = new ArrayList<>(diggings);
            return other;
        }

        int height(int cell, int d, int byFences, boolean dug) {
            int sum = ground.getOrDefault(cell, 0);
            for (Train train : trains) {
                sum += train.at(cell, d);
            }
            if ((byFences & 1 << cell) != 0) {
                sum -= 3;
            }
            if (cell > 0 && (byFences & 1 << cell - 1) != 0) {
                sum += 3;
            }
            for (Digging digging : diggings) {
                if (dug && digging.cell == cell && digging.first <= d && d <= digging.last && digging.last >= day) {
                    sum -= digging.by;
                }
            }
            return sum < 0 ? 0 : sum;
        }

        int height(int cell, int d) {
            return height(cell, d, fences, true);
        }

        Place place(int n) {
            if (n >= 0 && n < 4 && n < wells.size()) {
                return wells.get(n);
            }
            if (n >= 4 && n < 8 && n - 4 < towns.size()) {
                return towns.get(n - 4);
            }
            return null;
        }

        Place openWell(int cell, int d) {
            Place best = null;
            for (Place well : wells) {
                if (well.cell == cell && height(cell, d) <= well.limit && (best == null || well.coins < best.coins)) {
                    best = well;
                }
            }
            return best;
        }

        boolean canGo(int from, int to, int d, int climb) {
            return to >= 0 && to < cells && height(to, d + 1) <= height(from, d) + climb;
        }

        void pass(int[] ways) {
            for (int i = 0; i < ships.size(); i++) {
                Ship ship = ships.get(i);
                if (ship.dryOn >= 0) {
                    continue;
                }
                if (ship.water == 0) {
                    ship.dryOn = day;
                } else {
                    ship.water--;
                    ship.cell += ways[i];
                }
            }
            day++;
            diggings.removeIf(digging -> digging.last < day);
        }

        int fill(Ship ship) {
            Place well = openWell(ship.cell, day);
            if (ship.dryOn >= 0 || well == null) {
                return -1;
            }
            int coins = (ship.tank - ship.water) * well.coins;
            ship.water = ship.tank;
            ship.paid += coins;
            return coins;
        }
    }

    record Sight(int day, boolean showed) {
    }

    record Told(int cell, int day, int height) {
    }

    record Sailor(int days, int due, int spoil) {
    }

    static final class All {
        State now = new State();
        List<State> past = new ArrayList<>();
        List<Sight> sights = new ArrayList<>();
        List<Told> heights = new ArrayList<>();
        List<Sailor> fleet = new ArrayList<>();
        int x;

        All copy() {
            All other = new All();
            other.now = now.copy();
            for (State state : past) {
                other.past.add(state.copy());
            }
            other.sights.addAll(sights);
            other.heights.addAll(heights);
            other.fleet.addAll(fleet);
            other.x = x;
            return other;
        }
    }

    private String tape = "";
    private final List<NaiveRule> rules = new ArrayList<>();
    private All all = new All();
    private final All[] images = new All[4];

    int feed(int a, int b, int c, int d, int e) {
        if (tape.length() + 20 > 400) {
            return -1;
        }
        StringBuilder more = new StringBuilder();
        for (int number : new int[] {a, b, c, d, e}) {
            for (int shift = 24; shift >= 0; shift -= 8) {
                more.append((char) (number >> shift & 255));
            }
        }
        tape += more;
        return tape.length();
    }

    int end(int n) {
        if (n < 0 || n > tape.length()) {
            return -1;
        }
        tape = tape.substring(0, n);
        return n;
    }

    int sea() {
        String text = tape;
        tape = "";
        try {
            State read = new NaiveText(text).sea();
            int x = all.x;
            all = new All();
            all.x = x;
            all.now = read;
            return read.cells;
        } catch (Fault fault) {
            return -2 - fault.number;
        }
    }

    int rule() {
        if (rules.size() == 6) {
            return -1;
        }
        String text = tape;
        tape = "";
        try {
            rules.add(new NaiveText(text).rule());
            return rules.size() - 1;
        } catch (Fault fault) {
            return -2 - fault.number;
        }
    }

    private boolean none() {
        return all.now.cells == 0;
    }

    private boolean isCell(int cell) {
        return cell >= 0 && cell < all.now.cells;
    }

    private boolean isShip(int ship) {
        return ship >= 0 && ship < all.now.ships.size();
    }

    private static boolean isDay(int day) {
        return day >= 0 && day <= 9999;
    }

    int height(int cell, int day) {
        return isCell(cell) && day >= 0 && day <= 99999 ? all.now.height(cell, day) : -1;
    }

    int train(int n, int what) {
        if (n < 0 || n >= all.now.trains.size()) {
            return -1;
        }
        Train train = all.now.trains.get(n);
        if (what >= 100) {
            return what - 100 < train.row.length() ? train.row.charAt(what - 100) - '0' : -1;
        }
        return what == 0 ? train.lag : what == 1 ? train.shift : what == 2 ? train.row.length() : what == 3 ? train.greatest() : -1;
    }

    int place(int n, int what) {
        Place place = all.now.place(n);
        if (place == null) {
            return -1;
        }
        return what == 0 ? place.cell : what == 1 ? place.limit : what == 2 ? place.coins
                : what == 3 ? all.now.height(place.cell, all.now.day) <= place.limit ? 1 : 0 : -1;
    }

    int ship(int n, int what) {
        if (!isShip(n)) {
            return -2;
        }
        Ship ship = all.now.ships.get(n);
        return what == 0 ? ship.cell : what == 1 ? ship.water : what == 2 ? ship.tank : what == 3 ? ship.climb
                : what == 4 ? ship.paid : what == 5 ? ship.dryOn : -2;
    }

    private void remember() {
        all.past.add(all.now.copy());
        if (all.past.size() > 20) {
            all.past.remove(0);
        }
    }

    int sail(int n, int way) {
        if (!isShip(n) || way < -1 || way > 1 || all.now.day == 9999) {
            return -1;
        }
        Ship ship = all.now.ships.get(n);
        if (ship.dryOn >= 0) {
            return -1;
        }
        if (way != 0 && (ship.water == 0 || !all.now.canGo(ship.cell, ship.cell + way, all.now.day, ship.climb))) {
            return -1;
        }
        remember();
        int[] ways = new int[4];
        ways[n] = way;
        all.now.pass(ways);
        return all.now.day;
    }

    int fill(int n) {
        if (!isShip(n)) {
            return -1;
        }
        State was = all.now.copy();
        int coins = all.now.fill(all.now.ships.get(n));
        if (coins >= 0) {
            State is = all.now;
            all.now = was;
            remember();
            all.now = is;
        }
        return coins;
    }

    boolean fence(int cell, boolean is) {
        if (!isCell(cell) || ((all.now.fences & 1 << cell) != 0) == is) {
            return false;
        }
        remember();
        all.now.fences = is ? all.now.fences | 1 << cell : all.now.fences & ~(1 << cell);
        return true;
    }

    int dig(int cell, int by, int days) {
        if (!isCell(cell) || by < 1 || by > 20 || days < 1 || days > 30 || all.now.diggings.size() == 8) {
            return -1;
        }
        remember();
        all.now.diggings.add(new Digging(cell, by, all.now.day, all.now.day + days - 1));
        return all.now.height(cell, all.now.day);
    }

    int undo() {
        if (all.past.isEmpty()) {
            return -2;
        }
        all.now = all.past.remove(all.past.size() - 1);
        return all.past.size();
    }

    int run(int rule, int n) {
        if (none() || rule < 0 || rule >= rules.size() || n < 1 || n > 100 || all.now.day + n > 9999) {
            return -1;
        }
        all.past.clear();
        for (int i = 0; i < n; i++) {
            rules.get(rule).day(all.now);
        }
        return all.now.day;
    }

    private int roundOf() {
        int days = 1;
        boolean good = false;
        while (!good) {
            good = true;
            for (Train train : all.now.trains) {
                if (days % train.row.length() != 0) {
                    good = false;
                }
            }
            days += good ? 0 : 1;
        }
        return days;
    }

    int round() {
        return none() ? -1 : roundOf();
    }

    private boolean isOpen(Place place, int day, int fences) {
        return all.now.height(place.cell, day, fences, false) <= place.limit;
    }

    int again(int n, int day) {
        Place place = all.now.place(n);
        if (place == null || !isDay(day)) {
            return -1;
        }
        for (int d = day; d < day + 7000; d++) {
            if (isOpen(place, d, all.now.fences)) {
                return d;
            }
        }
        return -2;
    }

    int share(int n, int part) {
        Place place = all.now.place(n);
        if (place == null || part < 0 || part > 1) {
            return -1;
        }
        int open = 0;
        int round = roundOf();
        for (int d = 0; d < round; d++) {
            open += isOpen(place, 3 * round + d, all.now.fences) ? 1 : 0;
        }
        BigInteger common = BigInteger.valueOf(open).gcd(BigInteger.valueOf(round));
        return (part == 0 ? open : round) / common.intValue();
    }

    int crest(int cell, int day) {
        if (!isCell(cell) || !isDay(day)) {
            return -1;
        }
        for (int d = day; d < day + 7000 && !all.now.trains.isEmpty(); d++) {
            final int on = d;
            if (all.now.trains.stream().allMatch(train -> train.at(cell, on) == train.greatest())) {
                return d;
            }
        }
        return -2;
    }

    /** The least coins from here to the target on the last day; a large number if it can't be. */
    private int coins(Ship ship, int target, int last, int day, int[] cellAndWater, Map<Long, Integer> known) {
        int cell = cellAndWater[0];
        int water = cellAndWater[1];
        if (day == last) {
            return cell == target ? 0 : 1 << 28;
        }
        long key = (long) day * 1000 + cell * 40 + water;
        Integer was = known.get(key);
        if (was != null) {
            return was;
        }
        int best = 1 << 28;
        for (int first = 0; first < 6; first++) {
            best = Math.min(best, coinsBy(ship, target, last, day, cell, water, first / 2 - 1, first % 2 == 1, known));
        }
        known.put(key, best);
        return best;
    }

    private int coinsBy(Ship ship, int target, int last, int day, int cell, int water, int way, boolean fills, Map<Long, Integer> known) {
        int coins = 0;
        if (fills) {
            Place well = all.now.openWell(cell, day);
            if (well == null) {
                return 1 << 28;
            }
            coins = (ship.tank - water) * well.coins;
            water = ship.tank;
        }
        if (water == 0 || way != 0 && !all.now.canGo(cell, cell + way, day, ship.climb)) {
            return 1 << 28;
        }
        return Math.min(1 << 28, coins + coins(ship, target, last, day + 1, new int[] {cell + way, water - 1}, known));
    }

    private int firstDayThere(Ship ship, int target) {
        boolean[][] can = new boolean[12][31];
        can[ship.cell][ship.water] = true;
        for (int day = all.now.day; day <= all.now.day + 300; day++) {
            for (boolean there : can[target]) {
                if (there) {
                    return day;
                }
            }
            boolean[][] next = new boolean[12][31];
            for (int cell = 0; cell < all.now.cells; cell++) {
                for (int water = 0; water <= 30; water++) {
                    if (!can[cell][water]) {
                        continue;
                    }
                    for (int way = -1; way <= 1; way++) {
                        if (way != 0 && !all.now.canGo(cell, cell + way, day, ship.climb)) {
                            continue;
                        }
                        if (water > 0) {
                            next[cell + way][water - 1] = true;
                        }
                        if (all.now.openWell(cell, day) != null) {
                            next[cell + way][ship.tank - 1] = true;
                        }
                    }
                }
            }
            can = next;
        }
        return -1;
    }

    int voyage(int n, int cell, int what) {
        if (!isShip(n) || !isCell(cell) || all.now.ships.get(n).dryOn >= 0 || what < 0 || what > 3) {
            return -4;
        }
        Ship ship = all.now.ships.get(n);
        int last = firstDayThere(ship, cell);
        if (last < 0) {
            return -3;
        }
        if (what == 0) {
            return last;
        }
        if (ship.cell == cell) {
            return what == 2 ? -2 : 0;
        }
        Map<Long, Integer> known = new HashMap<>();
        int least = coins(ship, cell, last, all.now.day, new int[] {ship.cell, ship.water}, known);
        for (int first = 0; first < 6; first++) {
            boolean fills = first % 2 == 1;
            if (coinsBy(ship, cell, last, all.now.day, ship.cell, ship.water, first / 2 - 1, fills, known) == least) {
                return what == 1 ? least : what == 2 ? first / 2 - 1 : fills ? 1 : 0;
            }
        }
        throw new IllegalStateException();
    }

    private int openDays(Place place, int from, int to, int fences) {
        int sum = 0;
        for (int d = from; d <= to; d++) {
            sum += isOpen(place, d, fences) ? 1 : 0;
        }
        return sum;
    }

    int fences(int places, int from, int to, int what) {
        if (none() || places < 0 || places > 255 || what < 0 || what > 2) {
            return -1;
        }
        for (int n = 0; n < 8; n++) {
            if ((places & 1 << n) != 0 && all.now.place(n) == null) {
                return -1;
            }
        }
        if (!isDay(from) || !isDay(to) || to < from || to > from + 29) {
            return -1;
        }
        for (int few = 0; few <= 12; few++) {
            for (int set = 0; set < 1 << all.now.cells; set++) {
                if (Integer.bitCount(set) != few || (set & all.now.fences) != 0) {
                    continue;
                }
                boolean good = true;
                for (int n = 0; n < 8 && good; n++) {
                    if ((places & 1 << n) != 0) {
                        good = openDays(all.now.place(n), from, to, all.now.fences | set) == to - from + 1;
                    }
                }
                if (good) {
                    return what == 0 ? few : what == 1 ? set : whose(set, from, to);
                }
            }
        }
        return -2;
    }

    private int whose(int set, int from, int to) {
        int bits = 0;
        for (int n = 0; n < 8; n++) {
            Place place = all.now.place(n);
            if (place != null && openDays(place, from, to, all.now.fences | set) < openDays(place, from, to, all.now.fences)) {
                bits |= 1 << n;
            }
        }
        return bits;
    }

    int sight(int day, boolean showed) {
        if (day == -1) {
            all.sights.clear();
            return 0;
        }
        if (none() || !isDay(day) || all.sights.size() == 10) {
            return -2;
        }
        all.sights.add(new Sight(day, showed));
        return all.sights.size();
    }

    private boolean fits(int cell, int mast) {
        for (Sight sight : all.sights) {
            if (all.now.height(cell, sight.day, all.now.fences, false) <= mast != sight.showed) {
                return false;
            }
        }
        return true;
    }

    int wreck(int mast) {
        if (none() || mast < 0 || mast > 60) {
            return -1;
        }
        int bits = 0;
        for (int cell = 0; cell < all.now.cells; cell++) {
            bits |= fits(cell, mast) ? 1 << cell : 0;
        }
        return bits;
    }

    int masts(int cell) {
        if (!isCell(cell)) {
            return -1;
        }
        int sum = 0;
        for (int mast = 0; mast <= 60; mast++) {
            sum += fits(cell, mast) ? 1 : 0;
        }
        return sum;
    }

    int shows(int mast, int day) {
        if (none() || mast < 0 || mast > 60 || !isDay(day)) {
            return -1;
        }
        int bits = wreck(mast);
        for (int d = day; d < day + 7000 && bits != 0; d++) {
            boolean good = true;
            for (int cell = 0; cell < all.now.cells; cell++) {
                good &= (bits & 1 << cell) == 0 || all.now.height(cell, d, all.now.fences, false) <= mast;
            }
            if (good) {
                return d;
            }
        }
        return -2;
    }

    int told(int cell, int day, int height) {
        if (cell == -1) {
            all.heights.clear();
            return 0;
        }
        if (!isCell(cell) || !isDay(day) || height < 0 || height > 99 || all.heights.size() == 10) {
            return -2;
        }
        all.heights.add(new Told(cell, day, height));
        return all.heights.size();
    }

    int winds(int n, int what) {
        if (n < 0 || n >= all.now.trains.size() || what < 0 || what > 3) {
            return -1;
        }
        int sum = 0;
        int firstLag = -2;
        int firstShift = -2;
        int bits = 0;
        String row = all.now.trains.get(n).row;
        State other = all.now.copy();
        for (int lag = 9; lag >= 0; lag--) {
            for (int shift = row.length() - 1; shift >= 0; shift--) {
                other.trains.set(n, new Train(lag, shift, row));
                if (all.heights.stream().allMatch(t -> other.height(t.cell, t.day, other.fences, false) == t.height)) {
                    sum++;
                    firstLag = lag;
                    firstShift = shift;
                    bits |= 1 << lag;
                }
            }
        }
        return what == 0 ? sum : what == 1 ? firstLag : what == 2 ? firstShift : bits;
    }

    int rent(int n, int day, int days) {
        if (n < 0 || n >= all.now.towns.size() || !isDay(day) || days < 0 || days > 400) {
            return -1;
        }
        Place town = all.now.towns.get(n);
        int sum = 0;
        for (int d = day; d < day + days; d++) {
            sum += all.now.height(town.cell, d) <= town.limit ? town.coins : 0;
        }
        return sum;
    }

    int fleet(int days, int due, int spoil) {
        if (days == -1) {
            all.fleet.clear();
            return 0;
        }
        if (none() || days < 1 || days > 99 || due < 0 || due > 99 || spoil < 0 || spoil > 99 || all.fleet.size() == 6) {
            return -2;
        }
        all.fleet.add(new Sailor(days, due, spoil));
        return all.fleet.size();
    }

    private int[] bestRow;
    private int bestDues;

    private void rows(int[] row, int known, int used) {
        int size = all.fleet.size();
        if (known == size) {
            int dues = 0;
            int spoilt = 0;
            for (int i = 0; i < size; i++) {
                Sailor sailor = all.fleet.get(row[i]);
                dues += sailor.due * (sailor.days + spoilt);
                spoilt += sailor.spoil;
            }
            if (bestRow == null || dues < bestDues) {
                bestRow = row.clone();
                bestDues = dues;
            }
            return;
        }
        for (int who = 0; who < size; who++) {
            if ((used & 1 << who) == 0) {
                row[known] = who;
                rows(row, known + 1, used | 1 << who);
            }
        }
    }

    int order(int what) {
        if (none() || what < 0 || what > 6) {
            return -1;
        }
        bestRow = null;
        rows(new int[6], 0, 0);
        return what == 0 ? bestDues : what <= all.fleet.size() ? bestRow[what - 1] : -2;
    }

    long storms(int n, int k, int part) {
        if (none() || n < 0 || n > 12 || k < 0 || k > 13 || part < 0 || part > 1) {
            return -1;
        }
        BigInteger[] chance = new BigInteger[15];
        java.util.Arrays.fill(chance, BigInteger.ZERO);
        chance[0] = BigInteger.ONE;
        for (int i = 0; i < n; i++) {
            for (int j = 14; j >= 0; j--) {
                BigInteger less = j > 0 ? chance[j - 1] : BigInteger.ZERO;
                chance[j] = chance[j].multiply(BigInteger.valueOf(all.now.of - all.now.odds)).add(less.multiply(BigInteger.valueOf(all.now.odds)));
            }
        }
        BigInteger above = BigInteger.ZERO;
        for (int j = k; j < 15; j++) {
            above = above.add(chance[j]);
        }
        BigInteger below = BigInteger.valueOf(all.now.of).pow(n);
        return (part == 0 ? above : below).divide(above.gcd(below)).longValueExact();
    }

    int seed(int x) {
        if (x < 0) {
            return -1;
        }
        int was = all.x;
        all.x = x;
        return was;
    }

    int drawn(int rule, int m, int n, int what) {
        if (none() || rule < 0 || rule >= rules.size() || m < 1 || m > 10 || n < 1 || n > 100 || what < 0 || what > 2) {
            return -1;
        }
        int dry = 0;
        int coins = 0;
        int storms = 0;
        BigInteger x = BigInteger.valueOf(all.x);
        for (int i = 0; i < m; i++) {
            State trial = all.now.copy();
            for (int d = 0; d < n; d++) {
                rules.get(rule).day(trial);
                x = x.multiply(BigInteger.valueOf(1103515245)).add(BigInteger.valueOf(12345)).mod(BigInteger.valueOf(2147483648L));
                if (x.intValueExact() / 65536 % trial.of < trial.odds) {
                    storms++;
                    trial.ships.stream().filter(ship -> ship.dryOn < 0 && ship.water > 0).forEach(ship -> ship.water--);
                }
            }
            for (int s = 0; s < trial.ships.size(); s++) {
                dry += trial.ships.get(s).dryOn >= 0 ? 1 : 0;
                coins += trial.ships.get(s).paid - all.now.ships.get(s).paid;
            }
        }
        return what == 0 ? dry : what == 1 ? coins : storms;
    }

    int count(int what) {
        State now = all.now;
        int[] counts = {now.cells, now.trains.size(), now.wells.size(), now.towns.size(), now.ships.size(), rules.size(), now.day,
            now.fences, now.diggings.size(), all.past.size(), all.sights.size(), all.heights.size(), all.fleet.size(),
            (int) now.ships.stream().filter(ship -> ship.dryOn >= 0).count(), now.odds, none() ? -1 : now.of, all.x, tape.length()};
        return what >= 0 && what < counts.length ? counts[what] : -1;
    }

    int image(int k) {
        if (k < 0 || k > 3) {
            return -1;
        }
        images[k] = all.copy();
        return all.now.day;
    }

    int back(int k) {
        if (k < 0 || k > 3 || images[k] == null) {
            return -1;
        }
        all = images[k].copy();
        return all.now.day;
    }
}
