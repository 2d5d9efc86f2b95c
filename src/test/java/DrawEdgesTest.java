/** Promises 15 to 19: for each sentence that names a boundary case of draws and odds, a test of its own. */
public final class DrawEdgesTest {
    private static final int NONE = BookChecks.NONE;
    private static final int LEAST = Integer.MIN_VALUE;
    private static final int GREATEST = Integer.MAX_VALUE;

    public static void main(String[] args) {
        promise15Ships();
        promise15Below();
        promise15Above();
        promise15OneAtFirst();
        promise15RefusedChangesNothing();
        promise16HowMany();
        promise16AsPagesGrow();
        promise16WeightOfEachFraction();
        promise16EdgesOfR();
        promise16EndsAtWeightsOf0();
        promise16WithoutSign();
        promise16Wraps();
        promise16EachOnce();
        promise16BeginsByTheSeed();
        promise17Places();
        promise17Latest();
        promise17RefusedChangesNothing();
        promise18BeforeAny();
        promise18NoneAndNone();
        promise18InTheSameOrder();
        promise18AsManyAsNTells();
        promise18FarSeeds();
        promise18ChangesNothing();
        promise19NumbersFrom0ToPages();
        promise19Parts();
        promise19ZeroIs0Over1();
        promise19FullBook();
        promise19AllOfThem();
        Due.end();
    }

    // "SHIPS .. are 0 .. 9", "False when a number is none such"
    private static void promise15Ships() {
        BookChecks x = new BookChecks(0);
        for (int ship : new int[] {LEAST, -10, -1, 10, 11, GREATEST}) {
            Due.is("15 ship " + ship, x.risk(ship, 1, 2), false);
        }
        for (int ship = 0; ship < 10; ship++) {
            Due.is("15 ship " + ship, x.risk(ship, 1, 2), true);
        }
    }

    // "below 1 .. 10"
    private static void promise15Below() {
        BookChecks x = new BookChecks(0);
        for (int below : new int[] {LEAST, -10, -2, -1, 0, 11, 12, 2520, GREATEST}) {
            Due.is("15 0 / " + below, x.risk(0, 0, below), false);
            Due.is("15 1 / " + below, x.risk(0, 1, below), false);
            Due.is("15 the same / " + below, x.risk(0, below, below), false);
        }
        for (int below = 1; below <= 10; below++) {
            Due.is("15 0 / " + below, x.risk(0, 0, below), true);
        }
    }

    // "above 0 .. below"
    private static void promise15Above() {
        BookChecks x = new BookChecks(0);
        for (int below = 1; below <= 10; below++) {
            for (int above : new int[] {LEAST, -below, -1, below + 1, below + 2, GREATEST}) {
                Due.is("15 " + above + " / " + below, x.risk(0, above, below), false);
            }
            for (int above = 0; above <= below; above++) {
                Due.is("15 " + above + " / " + below, x.risk(0, above, below), true);
            }
        }
    }

    // "1 / 1 at first": the weight is 2520 without any risk told
    private static void promise15OneAtFirst() {
        for (int ship = 0; ship < 10; ship++) {
            Due.is("15 r of 2519", firstDrawn(2519, ship, ship), 0);
            Due.is("15 r of 2520", firstDrawn(2520, ship, ship), 1);
        }
    }

    /** The page that is drawn first of these ships' pages when x >>> 33 is r. */
    private static int firstDrawn(long r, int... ships) {
        BookChecks x = Make.withPages(Make.seedBefore(r << 33), ships);
        x.draw(1);
        return x.drawn(0);
    }

    // "What is refused changes nothing."
    private static void promise15RefusedChangesNothing() {
        int[][] wrong = {{0, -1, 1}, {0, 2, 1}, {0, 0, 0}, {0, 0, -1}, {0, 0, 11}, {0, 11, 11}, {-1, 0, 1}, {10, 0, 1}};
        for (int[] of : wrong) {
            for (int r = 1259; r <= 1260; r++) {
                BookChecks x = Make.withPages(Make.seedBefore((long) r << 33), 0, 1);
                x.risk(0, 1, 2);
                Due.is("15 refused", x.risk(of[0], of[1], of[2]), false);
                Due.is("15 both are left", x.draw(2), 2);
                Due.is("15 the weight is 1260 as before", x.drawn(0), r == 1259 ? 0 : 1);
            }
        }
    }

    // "NONE when n is not 0 .. the number of pages"
    private static void promise16HowMany() {
        BookChecks x = Make.withPages(7, 0, 1, 2);
        for (int n : new int[] {LEAST, -3, -1, 4, 5, 30, 31, GREATEST}) {
            Due.is("16 draw " + n, x.draw(n), NONE);
        }
        for (int n = 0; n <= 3; n++) {
            Due.is("16 draw " + n, x.draw(n), n);
        }
    }

    private static void promise16AsPagesGrow() {
        BookChecks x = new BookChecks(7);
        for (int pages = 0; pages <= 30; pages++) {
            Due.is("16 none of " + pages, x.draw(0), 0);
            Due.is("16 one more than " + pages, x.draw(pages + 1), NONE);
            Due.is("16 all of " + pages, x.draw(pages), pages);
            x.sale(0, 0, 0, 1);
            Due.is("16 sales are no pages", x.draw(pages + 1), NONE);
            x.page(0, 0, 0, 0);
            Due.is("16 refused pages are none", x.draw(pages + 1), NONE);
            x.page(pages % 10, 0, 0, 1);
        }
        Due.is("16 31 of 30", x.draw(31), NONE);
    }

    // "A page's WEIGHT is 2520 times its ship's RISK"
    private static void promise16WeightOfEachFraction() {
        for (int below = 1; below <= 10; below++) {
            for (int above = 0; above <= below; above++) {
                int weight = 2520 * above / below;
                String what = "16 weight of " + above + " / " + below;
                if (weight > 0) {
                    Due.is(what + ", its last r", firstByRisk(weight - 1, above, below), 0);
                }
                Due.is(what + ", the next r", firstByRisk(weight, above, below), 1);
                // The rest by both weights together begins anew.
                Due.is(what + ", the last r of both", firstByRisk(weight + 2519, above, below), 1);
                Due.is(what + ", one round more", firstByRisk(weight + 2520, above, below), weight > 0 ? 0 : 1);
            }
        }
    }

    private static int firstByRisk(long r, int above, int below) {
        BookChecks x = Make.withPages(Make.seedBefore(r << 33), 3, 9);
        x.risk(3, above, below);
        x.draw(1);
        return x.drawn(0);
    }

    // "are together not more than r, and with its own more"
    private static void promise16EdgesOfR() {
        for (int page = 0; page < 30; page++) {
            Due.is("16 the first r of page " + page, firstDrawn(2520L * page, new int[30]), page);
            Due.is("16 the last r of page " + page, firstDrawn(2520L * page + 2519, new int[30]), page);
        }
        Due.is("16 r begins anew", firstDrawn(75600, new int[30]), 0);
        Due.is("16 the last of a round", firstDrawn(151199, new int[30]), 29);
        Due.is("16 one page takes every r", firstDrawn(2519, 0) + firstDrawn(2520, 0), 0);
        for (int r = 0; r < 2; r++) {
            BookChecks x = Make.withPages(Make.seedBefore((long) r << 33), 1, 0, 1, 2, 1);
            x.risk(1, 0, 10);
            Due.is("16 two of five have weight", x.draw(5), 2);
            Due.is("16 pages of no weight before it are passed over", x.drawn(0), 1);
            Due.is("16 and those between", x.drawn(1), 3);
        }
    }

    // "It ends when these are 0."
    private static void promise16EndsAtWeightsOf0() {
        BookChecks x = Make.withPages(3, 0, 1, 0, 1);
        Due.is("16 risk of 0", x.risk(0, 0, 7), true);
        for (int n = 0; n <= 4; n++) {
            Due.is("16 " + n + " of two that weigh", x.draw(n), Math.min(n, 2));
        }
        Due.is("16 they are those of ship 1", x.drawn(0) + x.drawn(1), 4);
        Due.is("16 and no third", x.drawn(2), NONE);
        x.risk(1, 0, 1);
        for (int n = 0; n <= 4; n++) {
            Due.is("16 " + n + " when nothing weighs", x.draw(n), 0);
            Due.is("16 none is taken", x.drawn(0), NONE);
        }
        Due.is("16 5 is refused still", x.draw(5), NONE);
        x.risk(1, 1, 10);
        Due.is("16 the least weight is enough", x.draw(4), 2);
        BookChecks full = Make.withPages(3, new int[30]);
        full.risk(0, 0, 1);
        Due.is("16 30 that weigh nothing", full.draw(30), 0);
    }

    // "the rest of x >>> 33": no sign, and the lower 33 bits do not count
    private static void promise16WithoutSign() {
        // -1 >>> 33 is 2147483647, by 7560 a rest of 5167; the least long gives 1073741824, a rest of 2584.
        Due.is("16 x of -1", firstByX(-1L, 0, 0, 0), 2);
        Due.is("16 x the least long", firstByX(Long.MIN_VALUE, 0, 0, 0), 1);
        // The greatest long gives 1073741823, by 7560 a rest of 2583, by 5040 of 63.
        Due.is("16 x the greatest long, three pages", firstByX(Long.MAX_VALUE, 0, 0, 0), 1);
        Due.is("16 x the greatest long, two pages", firstByX(Long.MAX_VALUE, 0, 0), 0);
        Due.is("16 x of 0", firstByX(0L, 0, 0, 0), 0);
        Due.is("16 x just below 2520", firstByX((2520L << 33) - 1, 0, 0, 0), 0);
        Due.is("16 x just 2520", firstByX(2520L << 33, 0, 0, 0), 1);
    }

    private static int firstByX(long made, int... ships) {
        BookChecks x = Make.withPages(Make.seedBefore(made), ships);
        x.draw(1);
        return x.drawn(0);
    }

    // "as a long that wraps": rows reckoned apart, with whole numbers by 2^64
    private static void promise16Wraps() {
        allOf30(0L, 17, 13, 28, 5, 21, 1, 29, 12, 4, 0, 9, 14, 23, 24, 8, 26, 22, 20, 25, 3, 10, 27, 2, 6, 19, 7, 15, 16, 11, 18);
        allOf30(1L, 18, 3, 22, 29, 16, 27, 21, 24, 0, 15, 5, 11, 1, 2, 12, 10, 13, 7, 4, 9, 17, 25, 26, 8, 28, 19, 20, 14, 6, 23);
        allOf30(-1L, 12, 4, 3, 15, 25, 5, 18, 0, 9, 14, 13, 16, 22, 19, 7, 6, 10, 20, 21, 1, 11, 8, 24, 26, 2, 27, 17, 28, 23, 29);
        allOf30(Long.MIN_VALUE,
            15, 4, 16, 7, 22, 17, 20, 0, 25, 28, 26, 2, 9, 23, 21, 19, 29, 18, 5, 10, 12, 24, 1, 14, 11, 13, 6, 27, 3, 8);
        allOf30(Long.MAX_VALUE,
            14, 13, 21, 15, 25, 18, 27, 10, 26, 11, 29, 1, 4, 12, 19, 5, 8, 9, 2, 23, 16, 0, 17, 24, 7, 3, 6, 20, 22, 28);
        byTenths(0L, 8, 4, 2, 6, 0, 1, 3, 9, 5, 7);
        byTenths(1L, 6, 7, 2, 4, 9, 5, 8, 0, 3, 1);
        byTenths(-1L, 2, 3, 8, 7, 6, 5, 9, 4, 0, 1);
        byTenths(Long.MIN_VALUE, 5, 7, 3, 4, 9, 2, 8, 1, 6, 0);
        byTenths(Long.MAX_VALUE, 7, 2, 8, 6, 9, 4, 1, 5, 3, 0);
    }

    private static void allOf30(long seed, int... want) {
        BookChecks x = Make.withPages(seed, new int[30]);
        Due.is("16 all 30 by seed " + seed, x.draw(30), 30);
        Make.rowIs("16 all 30 by seed " + seed, x, want);
    }

    private static void byTenths(long seed, int... want) {
        BookChecks x = Make.withPages(seed, 0, 1, 2, 3, 4, 5, 6, 7, 8, 9);
        for (int ship = 0; ship < 10; ship++) {
            x.risk(ship, ship + 1, 10);
        }
        Due.is("16 by tenths, seed " + seed, x.draw(10), 10);
        Make.rowIs("16 by tenths, seed " + seed, x, want);
    }

    // "each once"
    private static void promise16EachOnce() {
        for (int pages = 1; pages <= 30; pages++) {
            BookChecks x = Make.withPages(pages * 1000003L, new int[pages]);
            x.draw(pages);
            int seen = 0;
            for (int k = 0; k < pages; k++) {
                seen |= 1 << x.drawn(k);
            }
            Due.is("16 each of " + pages + " once", seen, (1L << pages) - 1);
        }
    }

    // "x is the seed at first": for every draw
    private static void promise16BeginsByTheSeed() {
        BookChecks x = Make.withPages(0, 0, 0, 0);
        for (int i = 0; i < 3; i++) {
            x.draw(3);
            Make.rowIs("16 each time", x, 2, 1, 0);
            x.draw(1);
            Make.rowIs("16 a shorter one", x, 2);
        }
    }

    // "The k-th page .. NONE when there is none": from 0 on
    private static void promise17Places() {
        BookChecks x = Make.withPages(0, 0, 0, 0);
        Due.is("17 before any", x.drawn(0), NONE);
        x.draw(2);
        Due.is("17 first", x.drawn(0), 2);
        Due.is("17 last", x.drawn(1), 1);
        for (int k : new int[] {LEAST, -2, -1, 2, 3, 29, 30, 31, GREATEST}) {
            Due.is("17 place " + k, x.drawn(k), NONE);
        }
        BookChecks full = Make.withPages(0, new int[30]);
        full.draw(30);
        Due.is("17 the last of 30", full.drawn(29), 18);
        Due.is("17 one past the last", full.drawn(30), NONE);
    }

    // "of the latest DRAW"
    private static void promise17Latest() {
        BookChecks x = Make.withPages(0, 0, 0, 0);
        x.draw(3);
        Due.is("17 of three", x.drawn(2), 0);
        x.draw(1);
        Due.is("17 of one", x.drawn(0), 2);
        Due.is("17 nothing is left of the three", x.drawn(1), NONE);
        x.draw(0);
        Due.is("17 of none", x.drawn(0), NONE);
        x.draw(2);
        x.risk(0, 0, 1);
        Due.is("17 a risk told later", x.drawn(0), 2);
        Due.is("17 a draw that takes none is the latest", x.draw(2), 0);
        Due.is("17 it has none", x.drawn(0), NONE);
    }

    // "that was not refused"
    private static void promise17RefusedChangesNothing() {
        BookChecks x = Make.withPages(0, 0, 0, 0);
        x.draw(-1);
        Due.is("17 none before", x.drawn(0), NONE);
        x.draw(2);
        for (int n : new int[] {LEAST, -1, 4, 31, GREATEST}) {
            Due.is("17 refused", x.draw(n), NONE);
            Make.rowIs("17 behind draw " + n, x, 2, 1);
        }
    }

    // "0 before any", "none and none: true"
    private static void promise18BeforeAny() {
        BookChecks x = Make.withPages(0, 0, 0, 0);
        for (long seed : new long[] {Long.MIN_VALUE, -1, 0, 1, Long.MAX_VALUE}) {
            Due.is("18 before any", x.same(seed), true);
        }
        x.draw(4);
        Due.is("18 only a refused one", x.same(1), true);
        Due.is("18 nothing told", new BookChecks(0).same(1), true);
    }

    private static void promise18NoneAndNone() {
        BookChecks x = Make.withPages(0, 0, 0, 0);
        x.draw(3);
        Due.is("18 three", x.same(1), false);
        x.draw(0);
        Due.is("18 of 0", x.same(1), true);
        x.risk(0, 0, 1);
        Due.is("18 weights of 0", x.draw(3), 0);
        Due.is("18 none and none", x.same(1), true);
        x.risk(0, 1, 10);
        Due.is("18 none and some", x.same(0), false);
        x.draw(3);
        x.risk(0, 0, 1);
        Due.is("18 some and none", x.same(0), false);
    }

    // "would take the same ones in the same order"
    private static void promise18InTheSameOrder() {
        BookChecks x = Make.withPages(0, 0, 0, 0);
        // Of three pages seed 0 and the greatest take 2 1 0, seed 1 takes 0 1 2, -1 and the least take 0 2 1.
        x.draw(3);
        Due.is("18 its own seed", x.same(0), true);
        Due.is("18 the same order", x.same(Long.MAX_VALUE), true);
        Due.is("18 the other way round", x.same(1), false);
        Due.is("18 another order", x.same(-1), false);
        BookChecks y = Make.withPages(1, 0, 0, 0);
        y.draw(1);
        Due.is("18 the first alone is the same", y.same(-1), true);
        Due.is("18 the first alone is another", y.same(0), false);
        y.draw(2);
        Due.is("18 the second is another", y.same(-1), false);
        y.draw(3);
        Due.is("18 the last two are changed", y.same(Long.MIN_VALUE), false);
        Due.is("18 the same for one page", sameOfOne(), true);
    }

    private static boolean sameOfOne() {
        BookChecks x = Make.withPages(1, 0);
        x.draw(1);
        return x.same(Long.MIN_VALUE) && x.same(0) && x.same(Long.MAX_VALUE);
    }

    // "of as many pages as n of the latest one tells (.. not how many it took)"
    private static void promise18AsManyAsNTells() {
        BookChecks x = Make.withPages(0, 0, 1);
        x.risk(0, 0, 1);
        Due.is("18 n of 2 takes 1", x.draw(2), 1);
        Due.is("18 as it is", x.same(5), true);
        x.risk(0, 1, 10);
        Due.is("18 now both would be taken", x.same(0), false);
        x.risk(0, 0, 1);
        Due.is("18 n of 1", x.draw(1), 1);
        x.risk(0, 1, 10);
        // r is 1442695040888963407 >>> 33 by 2772, a rest of 1871: page 1, as page 0 weighs 252.
        Due.is("18 now one of both, the same", x.same(0), true);
        BookChecks y = Make.withPages(0, 0);
        y.draw(1);
        y.page(0, 0, 0, 1);
        // One seed makes r 2520 and takes page 1, the other makes it 0 and takes page 0.
        Due.is("18 of the pages that are told now", y.same(Make.seedBefore(2520L << 33)), false);
        Due.is("18 and still one of them", y.same(Make.seedBefore(0L)), true);
        y.draw(3);
        Due.is("18 refused ones tell no n", y.same(Make.seedBefore(0L)), true);
    }

    private static void promise18FarSeeds() {
        long[] seeds = {Long.MIN_VALUE, -1, 0, 1, Long.MAX_VALUE};
        for (long seed : seeds) {
            BookChecks x = Make.withPages(seed, new int[30]);
            x.draw(30);
            for (long other : seeds) {
                Due.is("18 seed " + seed + " and " + other, x.same(other), seed == other);
            }
        }
    }

    private static void promise18ChangesNothing() {
        BookChecks x = Make.withPages(0, 0, 0, 0);
        x.draw(2);
        x.same(1);
        Make.rowIs("18 the latest draw stays", x, 2, 1);
        Due.is("18 and its n", x.same(0), true);
        x.draw(3);
        Make.rowIs("18 the seed stays", x, 2, 1, 0);
    }

    // "NONE when one of both is not 0 .. the number of pages"
    private static void promise19NumbersFrom0ToPages() {
        BookChecks x = new BookChecks(0);
        for (int pages = 0; pages <= 30; pages += 3) {
            for (int far : new int[] {LEAST, -1, pages + 1, GREATEST}) {
                Due.is("19 n " + far + " of " + pages, x.missed(far, 0, 1), NONE);
                Due.is("19 wrong " + far + " of " + pages, x.missed(0, far, 1), NONE);
                Due.is("19 both " + far + " of " + pages, x.missed(far, far, 0), NONE);
            }
            Due.is("19 none of " + pages, x.missed(0, 0, 0), 1);
            Due.is("19 n of all " + pages, x.missed(pages, 0, 0), 1);
            Due.is("19 all wrong of " + pages, x.missed(0, pages, 0), 1);
            Due.is("19 all of both of " + pages, x.missed(pages, pages, 0), pages == 0 ? 1 : 0);
            for (int i = 0; i < 3; i++) {
                x.page(0, 0, 0, 1);
                x.sale(0, 0, 0, 1);
            }
        }
    }

    // "part = 0 above, 1 below", "NONE .. for other parts"
    private static void promise19Parts() {
        BookChecks x = Make.withPages(0, 0, 0, 0, 0);
        Due.is("19 part 0", x.missed(1, 1, 0), 3);
        Due.is("19 part 1", x.missed(1, 1, 1), 4);
        for (int part : new int[] {LEAST, -2, -1, 2, 3, GREATEST}) {
            Due.is("19 part " + part, x.missed(1, 1, part), NONE);
            Due.is("19 part " + part + " of nothing", new BookChecks(0).missed(0, 0, part), NONE);
        }
    }

    // "0 is 0 / 1"
    private static void promise19ZeroIs0Over1() {
        for (int pages = 1; pages <= 30; pages++) {
            BookChecks x = Make.withPages(0, new int[pages]);
            for (int n = 1; n <= pages; n += 5) {
                // One wrong page more than there is room for beside n.
                Due.is("19 above, no room", x.missed(n, pages - n + 1, 0), 0);
                Due.is("19 below, no room", x.missed(n, pages - n + 1, 1), 1);
                Due.is("19 above, just room", x.missed(n, pages - n, 0), 1);
            }
            Due.is("19 below, all of both", x.missed(pages, pages, 1), 1);
        }
    }

    private static void promise19FullBook() {
        BookChecks x = Make.withPages(0, new int[30]);
        // The numbers of ways to choose 15 and 14 of 30, the greatest there are.
        Due.is("19 15 and 15", x.missed(15, 15, 1), 155117520L);
        Due.is("19 14 and 16", x.missed(14, 16, 1), 145422675L);
        Due.is("19 16 and 14", x.missed(16, 14, 1), 145422675L);
        Due.is("19 one above", x.missed(15, 15, 0), 1);
        // 29 / 30 and 1 / 30.
        Due.is("19 1 and 1 above", x.missed(1, 1, 0), 29);
        Due.is("19 1 and 1 below", x.missed(1, 1, 1), 30);
        Due.is("19 29 and 1 above", x.missed(29, 1, 0), 1);
        Due.is("19 1 and 29 below", x.missed(1, 29, 1), 30);
        Due.is("19 the 31st page is none", x.page(0, 0, 0, 1), NONE);
        Due.is("19 31", x.missed(31, 0, 0), NONE);
    }

    /** Each of both, changed about, gives the same odds, in lowest terms. */
    private static void promise19AllOfThem() {
        for (int pages : new int[] {1, 7, 10}) {
            BookChecks x = Make.withPages(0, new int[pages]);
            for (int n = 0; n <= pages; n++) {
                Due.is("19 nothing wrong", x.missed(n, 0, 0) * 10 + x.missed(n, 0, 1), 11);
                for (int wrong = 0; wrong <= n; wrong++) {
                    long above = x.missed(n, wrong, 0);
                    long below = x.missed(n, wrong, 1);
                    Due.is("19 changed about, above", x.missed(wrong, n, 0), above);
                    Due.is("19 changed about, below", x.missed(wrong, n, 1), below);
                    Due.is("19 lowest terms", common(above, below), 1);
                }
            }
        }
    }

    private static long common(long a, long b) {
        return b == 0 ? a : common(b, a % b);
    }
}
