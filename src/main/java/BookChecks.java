/** Log pages, sales, plants, checks and acts of ships, checked against one another. */
public final class BookChecks {
    public static final int NONE = -1;

    private static final int SHIPS = 10;
    private static final int KINDS = 10;
    private static final int LAST_DAY = 100000;
    private static final int DAYS_LATER = 5;
    private static final long MOST_GRAMS = 1000000000L;
    private static final int ENTRIES = 30;
    private static final int PLANTS = 8;
    private static final int OUTS = 8;
    private static final int PERSONS = 100;

    private final long seed;
    private final Book pages;
    private final Book sales;
    private final Joins joins;
    private final Plants plants;
    private final Risks risks;
    private final Row latest;
    private final Row trial;
    private final Watch watch;
    private final Acts acts;

    public BookChecks(long seed) {
        this.seed = seed;
        this.pages = new Book();
        this.sales = new Book();
        this.joins = new Joins();
        this.plants = new Plants();
        this.risks = new Risks();
        this.latest = new Row();
        this.trial = new Row();
        this.watch = new Watch();
        this.acts = new Acts();
    }

    public int page(int ship, int day, int kind, long grams) {
        return pages.add(ship, day, kind, grams);
    }

    public int sale(int ship, int day, int kind, long grams) {
        return sales.add(ship, day, kind, grams);
    }

    public int run() {
        return joins.joinAnew(pages, sales);
    }

    public int pair(int page) {
        return joins.saleOf(page);
    }

    public int points(int page) {
        int sale = joins.saleOf(page);
        return sale == NONE ? 0 : pages.fitWith(page, sales, sale);
    }

    public long differs(int page) {
        int sale = joins.saleOf(page);
        return sale == NONE ? 0L : sales.gramsOf(sale) - pages.gramsOf(page);
    }

    public int waits(int day, int k) {
        return joins.waiting(pages, day, k);
    }

    public long pageAt(int page) throws IndexOutOfBoundsException {
        if (!pages.has(page)) {
            throw new IndexOutOfBoundsException("there is no such page");
        }
        return pages.gramsOf(page);
    }

    public long balance(int kind) {
        return sales.gramsOfKind(kind) - pages.gramsOfKind(kind);
    }

    public int plant(long in, int kind) {
        return plants.add(in, kind);
    }

    public int out(int plant, int kind, long grams) {
        return plants.addOut(plant, kind, grams);
    }

    public long lacks(int plant) {
        return plants.has(plant) ? plants.lackOf(plant) : NONE;
    }

    public int nowhere(int plant, int k) {
        return plants.has(plant) ? bitAt(plants.leastSet(plant), k) : NONE;
    }

    public boolean risk(int ship, int above, int below) {
        return risks.set(ship, above, below);
    }

    public int draw(int n) {
        if (n < 0 || n > pages.size) {
            return NONE;
        }
        risks.take(pages, seed, n, latest);
        return latest.size;
    }

    public int drawn(int k) {
        return latest.at(k);
    }

    public boolean same(long other) {
        risks.take(pages, other, latest.asked, trial);
        return latest.equalTo(trial);
    }

    public long missed(int n, int wrong, int part) {
        int all = pages.size;
        if (n < 0 || n > all || wrong < 0 || wrong > all || part < 0 || part > 1) {
            return NONE;
        }
        long above = choose(all - wrong, n);
        long below = choose(all, n);
        long common = commonDivisor(above, below);
        long whole = part == 0 ? above : below;
        return common > 0 ? whole / common : whole;
    }

    public int camera(int ship, int minutes) {
        return watch.most(pages, ship, minutes);
    }

    public int act(int ship, int event, int person) {
        return acts.tell(ship, event, person);
    }

    public int state(int ship) {
        return isShip(ship) ? acts.states[ship] : NONE;
    }

    public int repeated(int ship) {
        return isShip(ship) ? acts.wrongs[ship] : NONE;
    }

    private static boolean isShip(int ship) {
        return ship >= 0 && ship < SHIPS;
    }

    private static boolean isKind(int kind) {
        return kind >= 0 && kind < KINDS;
    }

    private static boolean isDay(int day) {
        return day >= 0 && day <= LAST_DAY;
    }

    private static boolean isWeighed(long grams) {
        return grams >= 1 && grams <= MOST_GRAMS;
    }

    /** The k-th of the bits that are set, from the lowest on. */
    private static int bitAt(int bits, int k) {
        int before = 0;
        for (int i = 0; i < OUTS; i++) {
            if ((bits & (1 << i)) != 0) {
                if (before == k) {
                    return i;
                }
                before++;
            }
        }
        return NONE;
    }

    /** In how many ways some of all can be chosen: 0 when there are not so many. */
    private static long choose(int all, int some) {
        if (some > all) {
            return 0L;
        }
        long ways = 1L;
        for (int i = 1; i <= some; i++) {
            // Each step is itself a number of ways, so that nothing is lost by dividing.
            ways = ways * (all - some + i) / i;
        }
        return ways;
    }

    private static long commonDivisor(long a, long b) {
        long greater = a;
        long lesser = b;
        // Euclid halves the greater number in two steps, so that a long needs fewer than 128.
        for (int i = 0; i < 128 && lesser != 0; i++) {
            long rest = greater % lesser;
            greater = lesser;
            lesser = rest;
        }
        return greater;
    }

    /** What is written down of landings: pages of a log, or sales. */
    private static final class Book {
        final int[] ships = new int[ENTRIES];
        final int[] days = new int[ENTRIES];
        final int[] kinds = new int[ENTRIES];
        final long[] grams = new long[ENTRIES];
        int size = 0;

        int add(int ship, int day, int kind, long weight) {
            if (size >= ENTRIES || !isShip(ship) || !isDay(day) || !isKind(kind) || !isWeighed(weight)) {
                return NONE;
            }
            int number = size;
            ships[number] = ship;
            days[number] = day;
            kinds[number] = kind;
            grams[number] = weight;
            size = number + 1;
            return number;
        }

        boolean has(int number) {
            return number >= 0 && number < size;
        }

        long gramsOf(int number) {
            return has(number) ? grams[number] : 0L;
        }

        long gramsOfKind(int kind) {
            long together = 0L;
            for (int i = 0; i < size; i++) {
                if (kinds[i] == kind) {
                    together += grams[i];
                }
            }
            return together;
        }

        /** Points of a page of this book and a sale of another; 0 when they do not fit. */
        int fitWith(int page, Book sales, int sale) {
            if (!has(page) || !sales.has(sale)) {
                return 0;
            }
            int later = sales.days[sale] - days[page];
            boolean alike = ships[page] == sales.ships[sale] && kinds[page] == sales.kinds[sale];
            if (!alike || later < 0 || later > DAYS_LATER) {
                return 0;
            }
            return Math.max(0, 1000 - 100 * later - lostByGrams(grams[page], sales.grams[sale]));
        }

        private static int lostByGrams(long logged, long sold) {
            long greater = Math.max(logged, sold);
            return greater > 0 ? (int) (900L * Math.abs(logged - sold) / greater) : 0;
        }
    }

    /** Which page was joined with which sale in the latest run. */
    private static final class Joins {
        private final int[] saleOfPage = new int[ENTRIES];
        private final int[] pageOfSale = new int[ENTRIES];

        Joins() {
            partAll();
        }

        private void partAll() {
            for (int i = 0; i < ENTRIES; i++) {
                saleOfPage[i] = NONE;
                pageOfSale[i] = NONE;
            }
        }

        int joinAnew(Book pages, Book sales) {
            partAll();
            int pairs = 0;
            for (int i = 0; i < ENTRIES && joinBest(pages, sales); i++) {
                pairs++;
            }
            return pairs;
        }

        /** False when no page and sale are left that fit. */
        private boolean joinBest(Book pages, Book sales) {
            int most = 0;
            int bestPage = NONE;
            int bestSale = NONE;
            for (int page = 0; page < pages.size; page++) {
                if (saleOfPage[page] != NONE) {
                    continue;
                }
                for (int sale = 0; sale < sales.size; sale++) {
                    int points = pageOfSale[sale] == NONE ? pages.fitWith(page, sales, sale) : 0;
                    // Only more points replace the best, so that of the same the lesser numbers stay.
                    if (points > most) {
                        most = points;
                        bestPage = page;
                        bestSale = sale;
                    }
                }
            }
            if (bestPage == NONE || bestSale == NONE) {
                return false;
            }
            saleOfPage[bestPage] = bestSale;
            pageOfSale[bestSale] = bestPage;
            return true;
        }

        int saleOf(int page) {
            return page >= 0 && page < ENTRIES ? saleOfPage[page] : NONE;
        }

        int waiting(Book pages, int day, int k) {
            int before = 0;
            for (int page = 0; page < pages.size; page++) {
                // As a long, so that no day, however far off, wraps round.
                long since = (long) day - pages.days[page];
                if (saleOfPage[page] == NONE && since >= 0 && since <= DAYS_LATER) {
                    if (before == k) {
                        return page;
                    }
                    before++;
                }
            }
            return NONE;
        }
    }

    /** Plants, and what went out of them; the outs of all plants stand in one row. */
    private static final class Plants {
        private final long[] cameIn = new long[PLANTS];
        private final int[] kinds = new int[PLANTS];
        private final int[] outs = new int[PLANTS];
        private final int[] outKinds = new int[PLANTS * OUTS];
        private final long[] outGrams = new long[PLANTS * OUTS];
        private int size = 0;

        boolean has(int plant) {
            return plant >= 0 && plant < size;
        }

        int add(long in, int kind) {
            if (size >= PLANTS || in < 0 || in > MOST_GRAMS || !isKind(kind)) {
                return NONE;
            }
            int number = size;
            cameIn[number] = in;
            kinds[number] = kind;
            size = number + 1;
            return number;
        }

        int addOut(int plant, int kind, long grams) {
            if (!has(plant) || !isKind(kind) || !isWeighed(grams) || outs[plant] >= OUTS) {
                return NONE;
            }
            int number = outs[plant];
            outKinds[plant * OUTS + number] = kind;
            outGrams[plant * OUTS + number] = grams;
            outs[plant] = number + 1;
            return number;
        }

        long lackOf(int plant) {
            return has(plant) ? Math.max(0L, gramsOfSet(plant, ownKind(plant)) - cameIn[plant]) : 0L;
        }

        /** The outs from nowhere, a bit for each. */
        int leastSet(int plant) {
            long lack = lackOf(plant);
            if (lack <= 0) {
                return 0;
            }
            int own = ownKind(plant);
            int best = own;
            for (int set = 1; set <= own; set++) {
                boolean ownOnly = (set & ~own) == 0;
                if (ownOnly && isBefore(set, best) && gramsOfSet(plant, set) >= lack) {
                    best = set;
                }
            }
            return best;
        }

        private int ownKind(int plant) {
            int set = 0;
            for (int i = 0; i < outs[plant]; i++) {
                if (outKinds[plant * OUTS + i] == kinds[plant]) {
                    set |= 1 << i;
                }
            }
            return set;
        }

        private long gramsOfSet(int plant, int set) {
            long together = 0L;
            for (int i = 0; i < outs[plant]; i++) {
                if ((set & (1 << i)) != 0) {
                    together += outGrams[plant * OUTS + i];
                }
            }
            return together;
        }

        private static boolean isBefore(int set, int other) {
            int fewer = Integer.bitCount(other) - Integer.bitCount(set);
            int differing = set ^ other;
            int firstDiffering = differing & -differing;
            return fewer > 0 || (fewer == 0 && (set & firstDiffering) != 0);
        }
    }

    /** The pages that a draw took, in their order, and how many it was asked for. */
    private static final class Row {
        private final int[] taken = new int[ENTRIES];
        int size = 0;
        int asked = 0;

        void begin(int n) {
            size = 0;
            asked = n;
        }

        void append(int page) {
            if (size < ENTRIES) {
                taken[size] = page;
                size++;
            }
        }

        int at(int k) {
            return k >= 0 && k < size ? taken[k] : NONE;
        }

        boolean equalTo(Row other) {
            if (size != other.size) {
                return false;
            }
            for (int i = 0; i < size; i++) {
                if (taken[i] != other.taken[i]) {
                    return false;
                }
            }
            return true;
        }
    }

    /** The ships' risks, and draws of pages by them. */
    private static final class Risks {
        // Every number from 1 to 10 divides it, so that weights are whole.
        private static final int WEIGHT_OF_ONE = 2520;
        private static final int MOST_BELOW = 10;
        private final int[] weightOfShip = new int[SHIPS];
        private final int[] weightLeft = new int[ENTRIES];

        Risks() {
            for (int ship = 0; ship < SHIPS; ship++) {
                weightOfShip[ship] = WEIGHT_OF_ONE;
            }
        }

        boolean set(int ship, int above, int below) {
            if (!isShip(ship) || below < 1 || below > MOST_BELOW || above < 0 || above > below) {
                return false;
            }
            weightOfShip[ship] = WEIGHT_OF_ONE / below * above;
            return true;
        }

        void take(Book pages, long seed, int n, Row row) {
            row.begin(n);
            int left = weighAll(pages);
            long x = seed;
            for (int i = 0; i < n && left > 0; i++) {
                x = x * 6364136223846793005L + 1442695040888963407L;
                int page = pageOver(pages.size, (int) ((x >>> 33) % left));
                if (page == NONE) {
                    return;
                }
                row.append(page);
                left -= weightLeft[page];
                // A page without weight is never found again.
                weightLeft[page] = 0;
            }
        }

        private int weighAll(Book pages) {
            int together = 0;
            for (int page = 0; page < pages.size; page++) {
                weightLeft[page] = weightOfShip[pages.ships[page]];
                together += weightLeft[page];
            }
            return together;
        }

        /** The first page with which the weights are together more than r. */
        private int pageOver(int size, int r) {
            int together = 0;
            for (int page = 0; page < size && page < ENTRIES; page++) {
                together += weightLeft[page];
                if (together > r) {
                    return page;
                }
            }
            return NONE;
        }
    }

    /** The minutes that it takes to watch pages. */
    private static final class Watch {
        private static final long MINUTES_EACH = 20L;
        private static final long GRAMS_A_MINUTE = 100000L;
        private final long[] minutesOf = new long[ENTRIES];

        int most(Book pages, int ship, int minutes) {
            int count = sortMinutes(pages, ship);
            long left = minutes;
            int watched = 0;
            for (int i = 0; i < count && minutesOf[i] <= left; i++) {
                left -= minutesOf[i];
                watched++;
            }
            return watched;
        }

        /** Minutes of a ship's pages, the least first, for those give the most pages. */
        private int sortMinutes(Book pages, int ship) {
            int count = 0;
            for (int page = 0; page < pages.size; page++) {
                if (pages.ships[page] == ship) {
                    insert(count, MINUTES_EACH + (pages.grams[page] + GRAMS_A_MINUTE - 1) / GRAMS_A_MINUTE);
                    count++;
                }
            }
            return count;
        }

        private void insert(int count, long minutes) {
            int place = count;
            while (place > 0 && minutesOf[place - 1] > minutes) {
                minutesOf[place] = minutesOf[place - 1];
                place--;
            }
            minutesOf[place] = minutes;
        }
    }

    /** What was told of ships, and in which state they are by that. */
    private static final class Acts {
        private static final int WRONG = 0;
        private static final int PAID = 1;
        private static final int HEARD = 2;
        private static final int CLEARED = 3;
        private static final int NOTHING = 0;
        private static final int WARNED = 1;
        private static final int FINED = 2;
        private static final int HELD = 3;
        final int[] states = new int[SHIPS];
        final int[] wrongs = new int[SHIPS];
        private final int[] latestPersons = new int[SHIPS];

        Acts() {
            for (int ship = 0; ship < SHIPS; ship++) {
                latestPersons[ship] = NONE;
            }
        }

        int tell(int ship, int event, int person) {
            if (!isShip(ship) || person < 0 || person >= PERSONS || latestPersons[ship] == person) {
                return NONE;
            }
            int next = after(states[ship], event);
            if (next == NONE) {
                return NONE;
            }
            states[ship] = next;
            latestPersons[ship] = person;
            if (event == WRONG) {
                wrongs[ship]++;
            }
            return next;
        }

        /** The state behind an event; NONE when it is not told of the state, or is no event. */
        private static int after(int now, int event) {
            switch (event) {
                case WRONG:
                    return now < HELD ? now + 1 : NONE;
                case PAID:
                    return now == FINED ? WARNED : NONE;
                case HEARD:
                    return now == HELD ? FINED : NONE;
                case CLEARED:
                    return now == WARNED ? NOTHING : NONE;
                default:
                    return NONE;
            }
        }
    }
}
