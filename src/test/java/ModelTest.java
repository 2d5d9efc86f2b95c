import java.math.BigInteger;
import java.util.ArrayList;
import java.util.Arrays;
import java.util.Comparator;
import java.util.List;
import java.util.Random;

/** Long runs of calls, drawn by fixed seeds, against a model that reckons in other ways. */
public final class ModelTest {
    private static final int RUNS = 400;
    private static final int CALLS = 512;
    private static final long[] FAR = {
        Integer.MIN_VALUE, -2, -1, 10, 11, 29, 30, 31, 100, 99999, 100000, 100001, 100004, Integer.MAX_VALUE
    };

    public static void main(String[] args) {
        for (int run = 0; run < RUNS; run++) {
            new ModelTest(run).calls();
        }
        Due.end();
    }

    private final int run;
    private final Random random;
    private final BookChecks x;
    private final Model model;
    private final int ships;
    private final int kinds;
    private final int days;
    private final boolean farArguments;

    private ModelTest(int run) {
        this.run = run;
        this.random = new Random(run * 7919L + 13);
        long seed = random.nextInt(4) == 0 ? random.nextInt(5) - 2 : random.nextLong();
        this.x = new BookChecks(seed);
        this.model = new Model(seed);
        this.ships = 1 + random.nextInt(10);
        this.kinds = 1 + random.nextInt(random.nextInt(10) + 1);
        this.days = 1 + random.nextInt(30);
        this.farArguments = random.nextBoolean();
    }

    private void calls() {
        for (int i = 0; i < CALLS; i++) {
            one(i, random.nextInt(23));
        }
    }

    private int some(int bound) {
        if (farArguments && random.nextInt(25) == 0) {
            return (int) FAR[random.nextInt(FAR.length)];
        }
        return random.nextInt(Math.max(1, bound));
    }

    private long grams() {
        switch (random.nextInt(farArguments ? 6 : 4)) {
            case 0: return 1 + random.nextInt(10);
            case 1: return 100 + random.nextInt(900);
            case 2: return 100000L * (1 + random.nextInt(4)) + random.nextInt(3) - 1;
            case 3: return 1 + random.nextInt(1000000000);
            case 4: return 1000000000L + random.nextInt(3) - 1;
            default: return random.nextInt(3) == 0 ? random.nextLong() : random.nextInt(3) - 1;
        }
    }

    private void due(int at, String call, long got, long want) {
        Due.is("run " + run + ", call " + at + ": " + call, got, want);
    }

    private void one(int at, int which) {
        int a = some(ships);
        int pageCount = model.pages.size();
        switch (which) {
            case 0: case 1: {
                int day = some(days), kind = some(kinds);
                long grams = grams();
                due(at, "page", x.page(a, day, kind, grams), model.enter(model.pages, a, day, kind, grams));
                break;
            }
            case 2: case 3: {
                int day = some(days + 5), kind = some(kinds);
                long grams = grams();
                due(at, "sale", x.sale(a, day, kind, grams), model.enter(model.sales, a, day, kind, grams));
                break;
            }
            case 4: due(at, "run", x.run(), model.join()); break;
            case 5: joins(at, some(pageCount + 2)); break;
            case 6: {
                int day = some(days + 6), k = some(6) - 1;
                due(at, "waits", x.waits(day, k), model.waiting(day, k));
                break;
            }
            case 7: { int p = some(pageCount + 1); due(at, "pageAt", pageAt(p), model.gramsAt(p)); break; }
            case 8: { int kind = some(kinds + 1); due(at, "balance", x.balance(kind), model.surplus(kind)); break; }
            case 9: {
                long in = random.nextInt(5) == 0 ? 0 : grams();
                int kind = some(kinds);
                due(at, "plant", x.plant(in, kind), model.addPlant(in, kind));
                break;
            }
            case 10: case 11: {
                int p = some(model.plants.size() + 1), kind = some(kinds);
                long grams = grams();
                due(at, "out", x.out(p, kind, grams), model.addOut(p, kind, grams));
                break;
            }
            default: oneOfTheRest(at, which, a, pageCount);
        }
    }

    private void oneOfTheRest(int at, int which, int a, int pageCount) {
        switch (which) {
            case 12: { int p = some(model.plants.size() + 1); due(at, "lacks", x.lacks(p), model.lack(p)); break; }
            case 13: case 14: {
                int p = some(model.plants.size()), k = some(4);
                due(at, "nowhere", x.nowhere(p, k), model.fromNowhere(p, k));
                break;
            }
            case 15: {
                int below = some(12), above = random.nextInt(4) == 0 ? 0 : some(below + 2);
                due(at, "risk", x.risk(a, above, below) ? 1 : 0, model.setRisk(a, above, below) ? 1 : 0);
                break;
            }
            case 16: { int n = some(pageCount + 2); due(at, "draw", x.draw(n), model.drawNow(n)); break; }
            case 17: { int k = some(pageCount + 1); due(at, "drawn", x.drawn(k), model.takenAt(k)); break; }
            case 18: {
                long other = random.nextInt(3) == 0 ? model.seed : random.nextLong();
                due(at, "same", x.same(other) ? 1 : 0, model.wouldTake(other, model.asked).equals(model.taken) ? 1 : 0);
                break;
            }
            case 19: {
                int n = some(pageCount + 1), wrong = some(pageCount + 1), part = some(2);
                due(at, "missed", x.missed(n, wrong, part), model.odds(n, wrong, part));
                break;
            }
            case 20: {
                int minutes = random.nextBoolean() ? some(300) : some(100000);
                due(at, "camera", x.camera(a, minutes), model.watched(a, minutes));
                break;
            }
            default: {
                int event = some(5), person = random.nextInt(8) == 0 ? some(102) : some(3);
                due(at, "act", x.act(a, event, person), model.tell(a, event, person));
                due(at, "state", x.state(a), model.in(a, 10) ? model.states[a] : -1);
                due(at, "repeated", x.repeated(a), model.in(a, 10) ? model.wrongs[a] : -1);
            }
        }
    }

    private void joins(int at, int page) {
        due(at, "pair", x.pair(page), model.saleOf(page));
        int sale = model.saleOf(page);
        due(at, "points", x.points(page), sale < 0 ? 0 : model.points(model.pages.get(page), model.sales.get(sale)));
        due(at, "differs", x.differs(page), sale < 0 ? 0 : model.sales.get(sale)[3] - model.pages.get(page)[3]);
    }

    private long pageAt(int page) {
        try {
            return x.pageAt(page);
        } catch (IndexOutOfBoundsException e) {
            return e.getClass() == IndexOutOfBoundsException.class ? -7 : -8;
        }
    }

    /** The document in other words: rows of ship, day, kind, grams; sorted lists; great integers. */
    private static final class Model {
        final long seed;
        final List<long[]> pages = new ArrayList<>();
        final List<long[]> sales = new ArrayList<>();
        final List<int[]> joined = new ArrayList<>();
        final List<List<long[]>> plants = new ArrayList<>();
        final int[][] risks = new int[10][];
        List<Integer> taken = new ArrayList<>();
        int asked = 0;
        final int[] states = new int[10];
        final int[] wrongs = new int[10];
        final int[] persons = new int[10];

        Model(long seed) {
            this.seed = seed;
            Arrays.fill(persons, -1);
            Arrays.fill(risks, new int[] {1, 1});
        }

        boolean in(long number, long count) {
            return number >= 0 && number < count;
        }

        int enter(List<long[]> book, int ship, int day, int kind, long grams) {
            boolean good = in(ship, 10) && in(day, 100001) && in(kind, 10) && in(grams - 1, 1000000000L);
            // The least long less 1 wraps, so that the sign is looked at by itself.
            if (!good || grams < 0 || book.size() == 30) {
                return -1;
            }
            book.add(new long[] {ship, day, kind, grams});
            return book.size() - 1;
        }

        long points(long[] page, long[] sale) {
            BigInteger difference = BigInteger.valueOf(page[3] - sale[3]).abs();
            BigInteger greater = BigInteger.valueOf(page[3]).max(BigInteger.valueOf(sale[3]));
            long lost = difference.multiply(BigInteger.valueOf(900)).divide(greater).longValue();
            return 1000 - 100 * (sale[1] - page[1]) - lost;
        }

        int join() {
            List<long[]> fits = new ArrayList<>();
            for (int p = 0; p < pages.size(); p++) {
                for (int s = 0; s < sales.size(); s++) {
                    long[] page = pages.get(p), sale = sales.get(s);
                    boolean near = sale[1] - page[1] >= 0 && sale[1] - page[1] <= 5;
                    if (page[0] == sale[0] && page[2] == sale[2] && near && points(page, sale) > 0) {
                        fits.add(new long[] {-points(page, sale), p, s});
                    }
                }
            }
            fits.sort(Comparator.<long[]>comparingLong(f -> f[0]).thenComparingLong(f -> f[1]).thenComparingLong(f -> f[2]));
            joined.clear();
            for (long[] fit : fits) {
                if (joined.stream().noneMatch(j -> j[0] == fit[1] || j[1] == fit[2])) {
                    joined.add(new int[] {(int) fit[1], (int) fit[2]});
                }
            }
            return joined.size();
        }

        int saleOf(int page) {
            return joined.stream().filter(j -> j[0] == page).mapToInt(j -> j[1]).findFirst().orElse(-1);
        }

        int waiting(int day, int k) {
            List<Integer> found = new ArrayList<>();
            for (int p = 0; p < pages.size(); p++) {
                long pageDay = pages.get(p)[1];
                if (saleOf(p) < 0 && pageDay <= day && pageDay + 5 >= day) {
                    found.add(p);
                }
            }
            return in(k, found.size()) ? found.get(k) : -1;
        }

        long gramsAt(int page) {
            return in(page, pages.size()) ? pages.get(page)[3] : -7;
        }

        long surplus(int kind) {
            return sales.stream().filter(s -> s[2] == kind).mapToLong(s -> s[3]).sum()
                - pages.stream().filter(p -> p[2] == kind).mapToLong(p -> p[3]).sum();
        }

        int addPlant(long in, int kind) {
            if (plants.size() == 8 || !in(in, 1000000001L) || !in(kind, 10)) {
                return -1;
            }
            List<long[]> plant = new ArrayList<>();
            plant.add(new long[] {kind, in});
            plants.add(plant);
            return plants.size() - 1;
        }

        int addOut(int plant, int kind, long grams) {
            if (!in(plant, plants.size()) || !in(kind, 10) || grams <= 0 || grams > 1000000000L) {
                return -1;
            }
            if (plants.get(plant).size() == 9) {
                return -1;
            }
            plants.get(plant).add(new long[] {kind, grams});
            return plants.get(plant).size() - 2;
        }

        long lack(int plant) {
            if (!in(plant, plants.size())) {
                return -1;
            }
            List<long[]> rows = plants.get(plant);
            long kind = rows.get(0)[0];
            long left = rows.get(0)[1];
            for (long[] out : rows.subList(1, rows.size())) {
                left -= out[0] == kind ? out[1] : 0;
            }
            return left < 0 ? -left : 0;
        }

        int fromNowhere(int plant, int k) {
            if (!in(plant, plants.size()) || lack(plant) == 0) {
                return -1;
            }
            for (int size = 1; size <= 8; size++) {
                List<Integer> set = firstSet(plants.get(plant), 0, size, lack(plant));
                if (set != null) {
                    return in(k, set.size()) ? set.get(k) : -1;
                }
            }
            throw new AssertionError("all outs together are enough");
        }

        /** The first set, in the order of words, of so many outs from one on that are enough. */
        private List<Integer> firstSet(List<long[]> rows, int from, int size, long lack) {
            if (size == 0) {
                return lack <= 0 ? new ArrayList<>() : null;
            }
            for (int i = from; i < rows.size() - 1; i++) {
                long[] out = rows.get(i + 1);
                if (out[0] == rows.get(0)[0]) {
                    List<Integer> rest = firstSet(rows, i + 1, size - 1, lack - out[1]);
                    if (rest != null) {
                        rest.add(0, i);
                        return rest;
                    }
                }
            }
            return null;
        }

        boolean setRisk(int ship, int above, int below) {
            boolean good = in(ship, 10) && in(below - 1L, 10) && in(above, below + 1L);
            if (good) {
                risks[ship] = new int[] {above, below};
            }
            return good;
        }

        int drawNow(int n) {
            if (!in(n, pages.size() + 1)) {
                return -1;
            }
            taken = wouldTake(seed, n);
            asked = n;
            return taken.size();
        }

        int takenAt(int k) {
            return in(k, taken.size()) ? taken.get(k) : -1;
        }

        /** Each page stands in an urn as often as it weighs. */
        List<Integer> wouldTake(long other, int n) {
            List<Integer> urn = new ArrayList<>();
            for (int p = 0; p < pages.size(); p++) {
                int[] risk = risks[(int) pages.get(p)[0]];
                for (int i = 0; i < 2520 * risk[0] / risk[1]; i++) {
                    urn.add(p);
                }
            }
            BigInteger x = BigInteger.valueOf(other);
            BigInteger wrap = BigInteger.ONE.shiftLeft(64);
            List<Integer> row = new ArrayList<>();
            while (row.size() < n && !urn.isEmpty()) {
                x = x.multiply(BigInteger.valueOf(6364136223846793005L)).add(BigInteger.valueOf(1442695040888963407L)).mod(wrap);
                Integer page = urn.get(x.shiftRight(33).mod(BigInteger.valueOf(urn.size())).intValue());
                row.add(page);
                urn.removeIf(page::equals);
            }
            return row;
        }

        /** The odds, page by page of those that are taken. */
        long odds(int n, int wrong, int part) {
            int all = pages.size();
            if (!in(n, all + 1) || !in(wrong, all + 1) || !in(part, 2)) {
                return -1;
            }
            BigInteger above = BigInteger.ONE, below = BigInteger.ONE;
            for (int i = 0; i < n; i++) {
                above = above.multiply(BigInteger.valueOf(Math.max(0, all - wrong - i)));
                below = below.multiply(BigInteger.valueOf(all - i));
            }
            return (part == 0 ? above : below).divide(above.gcd(below)).longValueExact();
        }

        /** The least minutes for each number of pages, by adding page for page. */
        int watched(int ship, int minutes) {
            long[] least = new long[31];
            Arrays.fill(least, 1, 31, Long.MAX_VALUE / 2);
            for (long[] page : pages) {
                if (page[0] == ship) {
                    long takes = 20 + page[3] / 100000 + (page[3] % 100000 > 0 ? 1 : 0);
                    for (int count = 30; count > 0; count--) {
                        least[count] = Math.min(least[count], least[count - 1] + takes);
                    }
                }
            }
            int most = 0;
            for (int count = 1; count <= 30; count++) {
                most = least[count] <= minutes ? count : most;
            }
            return most;
        }

        int tell(int ship, int event, int person) {
            int[][] told = {{0, 0, 1}, {0, 1, 2}, {0, 2, 3}, {1, 2, 1}, {2, 3, 2}, {3, 1, 0}};
            if (!in(ship, 10) || !in(person, 100) || persons[ship] == person) {
                return -1;
            }
            for (int[] way : told) {
                if (way[0] == event && way[1] == states[ship]) {
                    states[ship] = way[2];
                    persons[ship] = person;
                    wrongs[ship] += event == 0 ? 1 : 0;
                    return way[2];
                }
            }
            return -1;
        }
    }
}
