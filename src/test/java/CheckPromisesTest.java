/** Promises 15 to 23: draws, odds, cameras and acts, with answers reckoned by hand. */
public final class CheckPromisesTest {
    private static final int NONE = BookChecks.NONE;

    public static void main(String[] args) {
        promise15Risk();
        promise16Draw();
        promise16ByHand();
        promise17Drawn();
        promise18Same();
        promise18AfterChanges();
        promise19Missed();
        promise20Camera();
        promise21Act();
        promise21Persons();
        promise22State();
        promise23Repeated();
        Due.end();
    }

    private static void promise15Risk() {
        BookChecks x = Make.withPages(0, 0, 9);
        Due.is("15 ship -1", x.risk(-1, 0, 1), false);
        Due.is("15 ship 10", x.risk(10, 0, 1), false);
        Due.is("15 below 0", x.risk(0, 0, 0), false);
        Due.is("15 below -1", x.risk(0, -1, -1), false);
        Due.is("15 below 11", x.risk(0, 0, 11), false);
        Due.is("15 above -1", x.risk(0, -1, 1), false);
        Due.is("15 above over below", x.risk(0, 2, 1), false);
        Due.is("15 nothing was changed", x.draw(2), 2);
        Due.is("15 0 / 10", x.risk(0, 0, 10), true);
        Due.is("15 a ship without risk", x.draw(2), 1);
        Make.rowIs("15 the other", x, 1);
        Due.is("15 10 / 10", x.risk(0, 10, 10), true);
        Due.is("15 0 / 1", x.risk(9, 0, 1), true);
        Due.is("15 now the other", x.draw(2), 1);
        Make.rowIs("15 the first", x, 0);
        Due.is("15 refused", x.risk(0, 0, 11), false);
        Due.is("15 stays", x.draw(1), 1);
    }

    private static void promise16Draw() {
        BookChecks x = new BookChecks(5);
        Due.is("16 of none", x.draw(0), 0);
        Due.is("16 1 of none", x.draw(1), NONE);
        x.page(0, 0, 0, 1);
        x.page(0, 0, 0, 1);
        Due.is("16 -1", x.draw(-1), NONE);
        Due.is("16 3 of 2", x.draw(3), NONE);
        Due.is("16 2 of 2", x.draw(2), 2);
        Due.is("16 each once", x.drawn(0) + x.drawn(1), 1);
        Due.is("16 0 of 2", x.draw(0), 0);
        Make.rowIs("16 0 takes none", x);
        x.risk(0, 0, 3);
        Due.is("16 weights of 0", x.draw(2), 0);
        eachOnce();
    }

    private static void eachOnce() {
        for (int seed = -5; seed < 5; seed++) {
            BookChecks x = Make.withPages(seed, new int[30]);
            Due.is("16 30 of 30", x.draw(30), 30);
            int seen = 0;
            for (int k = 0; k < 30; k++) {
                seen |= 1 << x.drawn(k);
            }
            Due.is("16 each page once", Integer.bitCount(seen), 30);
        }
    }

    private static void promise16ByHand() {
        // From a seed of 0 the first step makes x the addend itself.
        long first = 1442695040888963407L >>> 33;
        BookChecks x = Make.withPages(0, 0, 1);
        x.risk(0, 1, 10);
        x.risk(1, 9, 10);
        x.draw(1);
        Due.is("16 by weights of 252 and 2268", x.drawn(0), first % 2520 < 252 ? 0 : 1);
        int[] row = new int[4];
        x = Make.withPages(0, 0, 0, 0, 0);
        x.draw(4);
        for (int k = 0; k < 4; k++) {
            row[k] = x.drawn(k);
        }
        Due.is("16 first of four", row[0], first % 10080 / 2520);
        x.draw(4);
        Make.rowIs("16 each draw begins by the seed", x, row);
        x.draw(2);
        Make.rowIs("16 a shorter draw", x, row[0], row[1]);
        // A seed that makes x 0 at first takes page 0: r is 0.
        BookChecks y = Make.withPages(Make.seedBefore(0L), 0, 0, 0);
        y.draw(1);
        Make.rowIs("16 r of 0", y, 0);
        // x >>> 33 keeps no sign: -1 gives 2147483647, by 7560 with a rest of 5167.
        y = Make.withPages(Make.seedBefore(-1L), 0, 0, 0);
        y.draw(1);
        Make.rowIs("16 x of -1", y, 2);
        edgesOfWeights();
    }

    private static void edgesOfWeights() {
        // r is 2519 and 2520, the last of page 0 and the first of page 1.
        BookChecks last = Make.withPages(Make.seedBefore(2519L << 33), 0, 0);
        last.draw(1);
        Make.rowIs("16 r of 2519", last, 0);
        BookChecks next = Make.withPages(Make.seedBefore(2520L << 33), 0, 0);
        next.draw(1);
        Make.rowIs("16 r of 2520", next, 1);
        BookChecks behind = Make.withPages(Make.seedBefore(0L), 0, 1);
        behind.risk(0, 0, 1);
        behind.draw(1);
        Make.rowIs("16 a page of no weight is passed over", behind, 1);
        BookChecks third = Make.withPages(Make.seedBefore(839L << 33), 0, 1);
        third.risk(0, 1, 3);
        third.draw(1);
        Make.rowIs("16 r of 839 by 840", third, 0);
        third = Make.withPages(Make.seedBefore(840L << 33), 0, 1);
        third.risk(0, 1, 3);
        third.draw(1);
        Make.rowIs("16 r of 840 by 840", third, 1);
    }

    private static void promise17Drawn() {
        BookChecks x = Make.withPages(11, 1, 2, 3);
        Due.is("17 before any", x.drawn(0), NONE);
        x.draw(3);
        int first = x.drawn(0);
        Due.is("17 a refused draw", x.draw(4), NONE);
        Due.is("17 changes nothing", x.drawn(0), first);
        Due.is("17 k -1", x.drawn(-1), NONE);
        Due.is("17 k 3", x.drawn(3), NONE);
        Due.is("17 k 30", x.drawn(30), NONE);
        Due.is("17 k least", x.drawn(Integer.MIN_VALUE), NONE);
        x.page(4, 0, 0, 1);
        x.risk(1, 0, 1);
        Due.is("17 what comes later changes nothing", x.drawn(0), first);
        x.draw(1);
        Due.is("17 the latest alone", x.drawn(1), NONE);
    }

    private static void promise18Same() {
        BookChecks x = Make.withPages(0, 0, 0);
        Due.is("18 before any", x.same(5), true);
        x.draw(1);
        int taken = x.drawn(0);
        long zero = Make.seedBefore(0L);
        long one = Make.seedBefore(2520L << 33);
        Due.is("18 the same seed", x.same(0), true);
        Due.is("18 a seed that takes 0", x.same(zero), taken == 0);
        Due.is("18 a seed that takes 1", x.same(one), taken == 1);
        Due.is("18 changes nothing", x.drawn(0), taken);
        Due.is("18 nor its length", x.drawn(1), NONE);
        x.draw(3);
        Due.is("18 refused draws are not the latest", x.same(zero), taken == 0);
        x.draw(0);
        Due.is("18 none and none", x.same(one) && x.same(zero), true);
    }

    private static void promise18AfterChanges() {
        BookChecks x = Make.withPages(0, 0, 1);
        x.risk(0, 0, 1);
        Due.is("18 asked for 2, took 1", x.draw(2), 1);
        Due.is("18 as long as the risk is 0", x.same(77), true);
        x.risk(0, 1, 1);
        Due.is("18 n tells how many, not what was taken", x.same(0), false);
        x.risk(1, 0, 1);
        Due.is("18 now another page", x.same(0), false);
        BookChecks y = Make.withPages(0, 0);
        y.draw(0);
        y.page(0, 0, 0, 1);
        Due.is("18 n of 0 stays", y.same(9), true);
        BookChecks z = Make.withPages(0, 0);
        z.risk(0, 0, 1);
        Due.is("18 took none", z.draw(1), 0);
        Due.is("18 none and none again", z.same(9), true);
        z.risk(0, 1, 1);
        Due.is("18 none and one", z.same(9), false);
        BookChecks v = Make.withPages(0, 0);
        v.draw(1);
        v.risk(0, 0, 1);
        Due.is("18 one and none", v.same(0), false);
    }

    private static void oddsAre(BookChecks x, int n, int wrong, long above, long below) {
        Due.is("19 above of " + n + ", " + wrong, x.missed(n, wrong, 0), above);
        Due.is("19 below of " + n + ", " + wrong, x.missed(n, wrong, 1), below);
    }

    private static void promise19Missed() {
        BookChecks x = Make.withPages(0, 0, 1, 2, 3, 4, 5);
        oddsAre(x, 0, 0, 1, 1);
        oddsAre(x, 0, 6, 1, 1);
        oddsAre(x, 6, 0, 1, 1);
        oddsAre(x, 6, 1, 0, 1);
        oddsAre(x, 3, 3, 1, 20);
        oddsAre(x, 4, 3, 0, 1);
        oddsAre(x, 2, 2, 2, 5);
        oddsAre(x, 2, 3, 1, 5);
        oddsAre(x, 1, 2, 2, 3);
        Due.is("19 part 2", x.missed(1, 1, 2), NONE);
        Due.is("19 part -1", x.missed(1, 1, -1), NONE);
        Due.is("19 n 7", x.missed(7, 0, 0), NONE);
        Due.is("19 n -1", x.missed(-1, 0, 0), NONE);
        Due.is("19 wrong 7", x.missed(0, 7, 1), NONE);
        Due.is("19 wrong -1", x.missed(0, -1, 1), NONE);
        x.risk(0, 0, 1);
        oddsAre(x, 3, 3, 1, 20);
        BookChecks y = Make.withPages(0, new int[30]);
        oddsAre(y, 15, 15, 1, 155117520L);
        oddsAre(y, 29, 1, 1, 30);
        oddsAre(y, 30, 30, 0, 1);
    }

    private static void promise20Camera() {
        BookChecks x = new BookChecks(0);
        x.page(3, 0, 0, 1000000000L);
        x.page(3, 0, 0, 1);
        x.page(3, 0, 0, 100000);
        x.page(3, 0, 0, 100001);
        x.page(4, 0, 0, 1);
        Due.is("20 0", x.camera(3, 0), 0);
        Due.is("20 20", x.camera(3, 20), 0);
        Due.is("20 21", x.camera(3, 21), 1);
        Due.is("20 41", x.camera(3, 41), 1);
        Due.is("20 42, the shortest ones", x.camera(3, 42), 2);
        Due.is("20 63", x.camera(3, 63), 2);
        Due.is("20 64", x.camera(3, 64), 3);
        Due.is("20 10083", x.camera(3, 10083), 3);
        Due.is("20 10084", x.camera(3, 10084), 4);
        Due.is("20 greatest", x.camera(3, Integer.MAX_VALUE), 4);
        Due.is("20 least", x.camera(3, Integer.MIN_VALUE), 0);
        Due.is("20 another ship", x.camera(4, 1000), 1);
        Due.is("20 ship without pages", x.camera(5, 1000), 0);
        Due.is("20 ship -1", x.camera(-1, 1000), 0);
        Due.is("20 ship 10", x.camera(10, 1000), 0);
    }

    private static void promise21Act() {
        int[][] due = {
            {1, NONE, NONE, NONE},
            {2, NONE, NONE, 0},
            {3, 1, NONE, NONE},
            {NONE, NONE, 2, NONE},
        };
        for (int state = 0; state < 4; state++) {
            for (int event = -1; event < 5; event++) {
                BookChecks x = new BookChecks(0);
                for (int i = 0; i < state; i++) {
                    x.act(2, 0, i);
                }
                int want = event < 0 || event > 3 ? NONE : due[state][event];
                Due.is("21 event " + event + " in " + state, x.act(2, event, 50), want);
                Due.is("21 state behind " + event, x.state(2), want == NONE ? state : want);
                Due.is("21 others", x.state(1), 0);
            }
        }
    }

    private static void promise21Persons() {
        BookChecks x = new BookChecks(0);
        Due.is("21 person -1", x.act(0, 0, -1), NONE);
        Due.is("21 person 100", x.act(0, 0, 100), NONE);
        Due.is("21 ship -1", x.act(-1, 0, 0), NONE);
        Due.is("21 ship 10", x.act(10, 0, 0), NONE);
        Due.is("21 person 0", x.act(0, 0, 0), 1);
        Due.is("21 the same person", x.act(0, 0, 0), NONE);
        Due.is("21 person -1 later", x.act(0, 0, -1), NONE);
        Due.is("21 person 100 later", x.act(0, 0, 100), NONE);
        Due.is("21 of another ship", x.act(1, 0, 0), 1);
        Due.is("21 not told of the state", x.act(0, 1, 7), NONE);
        Due.is("21 is not the latest", x.act(0, 0, 7), 2);
        Due.is("21 person 0 again", x.act(0, 1, 0), 1);
        Due.is("21 person 99", x.act(0, 3, 99), 0);
        Due.is("21 person 99 again", x.act(0, 0, 99), NONE);
    }

    private static void promise22State() {
        BookChecks x = new BookChecks(0);
        x.act(9, 0, 1);
        x.act(9, 0, 2);
        Due.is("22 ship 9", x.state(9), 2);
        Due.is("22 ship 0", x.state(0), 0);
        Due.is("22 ship 10", x.state(10), NONE);
        Due.is("22 ship -1", x.state(-1), NONE);
        x.act(9, 0, 2);
        x.act(9, 2, 3);
        Due.is("22 refused ones change nothing", x.state(9), 2);
    }

    private static void promise23Repeated() {
        BookChecks x = new BookChecks(0);
        x.act(9, 0, 1);
        x.act(9, 3, 2);
        x.act(9, 0, 1);
        Due.is("23 two times wrong", x.repeated(9), 2);
        x.act(9, 0, 1);
        Due.is("23 refused for the person", x.repeated(9), 2);
        x.act(9, 0, 2);
        x.act(9, 0, 3);
        x.act(9, 0, 4);
        Due.is("23 refused for the state", x.repeated(9), 4);
        Due.is("23 ship 0", x.repeated(0), 0);
        Due.is("23 ship 10", x.repeated(10), NONE);
        Due.is("23 ship -1", x.repeated(-1), NONE);
    }
}
