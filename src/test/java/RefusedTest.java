import java.util.List;
import java.util.function.Consumer;
import java.util.function.Function;

/**
 * "What is refused changes nothing.": of two objects in the same state one gets a call that is
 * refused; its answer is the one that is due, and whatever both answer from then on is the same.
 */
public final class RefusedTest {
    private static final int NONE = BookChecks.NONE;
    private static final int LEAST = Integer.MIN_VALUE;
    private static final int GREATEST = Integer.MAX_VALUE;
    private static final long BILLION = 1000000000L;
    private static final int MOST_CALLS = 512;
    private static final int[] NO_TEN = {LEAST, -1, 10, GREATEST};
    private static final int[] NO_DAY = {LEAST, -1, 100001, GREATEST};
    private static final long[] NO_GRAMS = {Long.MIN_VALUE, -1, 0, BILLION + 1, (1L << 32) + 1, Long.MAX_VALUE};

    private final String name;
    private final Consumer<BookChecks> setUp;

    private RefusedTest(String name, Consumer<BookChecks> setUp) {
        this.name = name;
        this.setUp = setUp;
    }

    public static void main(String[] args) {
        RefusedTest[] states = {
            new RefusedTest("nothing told", x -> { }),
            new RefusedTest("some told", RefusedTest::tellSome),
            new RefusedTest("all told", RefusedTest::tellAll),
        };
        for (RefusedTest state : states) {
            state.wrongPages();
            state.wrongSales();
            state.wrongPlants();
            state.wrongOuts();
            state.wrongRisks();
            state.wrongDraws();
            state.wrongActs();
            state.wrongQuestions();
            state.asking();
        }
        nothingIsThereYet(states[0]);
        notOfTheState(states[1]);
        asManyAsCanBeTold(states[2]);
        Due.end();
    }

    private static void tellSome(BookChecks x) {
        for (int i = 0; i < 10; i++) {
            x.page(i, i, i % 3, 100 * (i + 1));
            x.risk(i, i % 4 + 1, i % 4 + 2);
        }
        for (int i = 0; i < 6; i++) {
            x.sale(i, i + i % 2, i % 3, 90 * (i + 1));
        }
        x.run();
        x.page(5, 4, 2, 600);
        x.sale(9, 9, 0, 1000);
        x.plant(50, 1);
        x.plant(0, 2);
        x.plant(9, 0);
        for (int i = 0; i < 5; i++) {
            x.out(0, 1, 20 + i);
            x.out(1, i % 3, 30);
        }
        x.draw(4);
        tellActs(x);
    }

    /** Ships 0 to 4: nothing, warned by 3, fined by 3, held by 3, and cleared again by 50. */
    private static void tellActs(BookChecks x) {
        x.act(1, 0, 3);
        x.act(2, 0, 4);
        x.act(2, 0, 3);
        x.act(3, 0, 3);
        x.act(3, 0, 4);
        x.act(3, 0, 3);
        x.act(4, 0, 3);
        x.act(4, 3, 50);
    }

    private static void tellAll(BookChecks x) {
        for (int i = 0; i < 30; i++) {
            x.page(i % 10, i % 11, i % 4, 1000 + 37 * i);
            x.sale(i % 10, i % 11 + i % 3, i % 4, 1500 - 29 * i);
        }
        for (int i = 0; i < 8; i++) {
            x.plant(10 * i, 1);
        }
        for (int i = 0; i < 8; i++) {
            x.out(0, i % 2, 40 + i);
            x.out(7, 1, 40 - i);
        }
        x.run();
        x.risk(3, 0, 1);
        x.risk(5, 1, 9);
        x.draw(30);
        tellActs(x);
    }

    /** The call answers this, and behind it the object is as its twin, which was spared the call. */
    private void refused(String call, Object want, Function<BookChecks, Object> asked) {
        BookChecks touched = new BookChecks(1);
        BookChecks spared = new BookChecks(1);
        setUp.accept(touched);
        setUp.accept(spared);
        Object got = asked.apply(touched);
        Due.is(name + ": " + call + " answered " + got + " and not " + want, got.equals(want), true);
        List<String> answers = Probe.of(touched);
        List<String> due = Probe.of(spared);
        Due.is(name + ": answers behind " + call, answers.size(), due.size());
        for (int i = 0; i < Math.min(answers.size(), due.size()); i++) {
            Due.is(name + ": behind " + call + " " + answers.get(i) + ", but " + due.get(i), answers.get(i).equals(due.get(i)), true);
        }
        // The fullest state takes 96 calls to be told, and one is refused.
        Due.is(name + ": calls", answers.size() + 97 <= MOST_CALLS, true);
    }

    private void wrongPages() {
        for (int i : NO_TEN) {
            refused("page of ship " + i, NONE, x -> x.page(i, 4, 1, 450));
            refused("page of kind " + i, NONE, x -> x.page(4, 4, i, 450));
        }
        for (int day : NO_DAY) {
            refused("page of day " + day, NONE, x -> x.page(4, day, 1, 450));
        }
        for (long grams : NO_GRAMS) {
            refused("page of grams " + grams, NONE, x -> x.page(4, 4, 1, grams));
        }
    }

    private void wrongSales() {
        for (int i : NO_TEN) {
            refused("sale of ship " + i, NONE, x -> x.sale(i, 4, 1, 450));
            refused("sale of kind " + i, NONE, x -> x.sale(4, 4, i, 450));
        }
        for (int day : NO_DAY) {
            refused("sale of day " + day, NONE, x -> x.sale(4, day, 1, 450));
        }
        for (long grams : NO_GRAMS) {
            refused("sale of grams " + grams, NONE, x -> x.sale(4, 4, 1, grams));
        }
    }

    private void wrongPlants() {
        for (int kind : NO_TEN) {
            refused("plant of kind " + kind, NONE, x -> x.plant(5, kind));
        }
        for (long in : new long[] {Long.MIN_VALUE, -1, BILLION + 1, 1L << 32, Long.MAX_VALUE}) {
            refused("plant of in " + in, NONE, x -> x.plant(in, 1));
        }
    }

    private void wrongOuts() {
        for (int plant : new int[] {LEAST, -1, 8, 9, GREATEST}) {
            refused("out of plant " + plant, NONE, x -> x.out(plant, 1, 70));
        }
        for (int kind : NO_TEN) {
            refused("out of kind " + kind, NONE, x -> x.out(1, kind, 70));
        }
        for (long grams : NO_GRAMS) {
            refused("out of grams " + grams, NONE, x -> x.out(1, 1, grams));
        }
    }

    private void wrongRisks() {
        for (int ship : NO_TEN) {
            refused("risk of ship " + ship, false, x -> x.risk(ship, 0, 1));
        }
        for (int ship = 0; ship < 10; ship += 3) {
            int of = ship;
            for (int below : new int[] {LEAST, -1, 0, 11, GREATEST}) {
                refused("risk of 0 / " + below, false, x -> x.risk(of, 0, below));
            }
            for (int above : new int[] {LEAST, -1, 4, GREATEST}) {
                refused("risk of " + above + " / 3", false, x -> x.risk(of, above, 3));
            }
        }
    }

    private void wrongDraws() {
        for (int n : new int[] {LEAST, -1, 31, GREATEST}) {
            refused("draw of " + n, NONE, x -> x.draw(n));
        }
    }

    private void wrongActs() {
        for (int ship : NO_TEN) {
            refused("act of ship " + ship, NONE, x -> x.act(ship, 0, 3));
        }
        for (int ship = 0; ship < 5; ship++) {
            int of = ship;
            for (int event : new int[] {LEAST, -1, 4, GREATEST}) {
                refused("act of event " + event, NONE, x -> x.act(of, event, 50));
            }
            for (int person : new int[] {LEAST, -1, 100, GREATEST}) {
                refused("act of person " + person, NONE, x -> x.act(of, 0, person));
            }
        }
    }

    private void wrongQuestions() {
        for (int i : new int[] {LEAST, -1, 30, 31, GREATEST}) {
            refused("pair " + i, NONE, x -> x.pair(i));
            refused("points " + i, 0, x -> x.points(i));
            refused("differs " + i, 0L, x -> x.differs(i));
            refused("pageAt " + i, 1, x -> Make.thrown(x, i));
            refused("waits at " + i, NONE, x -> x.waits(5, i));
            refused("drawn " + i, NONE, x -> x.drawn(i));
            refused("nowhere at " + i, NONE, x -> x.nowhere(0, i));
            refused("lacks " + i, (long) NONE, x -> x.lacks(i));
            refused("balance " + i, 0L, x -> x.balance(i));
            refused("state " + i, NONE, x -> x.state(i));
            refused("repeated " + i, NONE, x -> x.repeated(i));
            refused("camera " + i, 0, x -> x.camera(i, 1000));
            refused("part " + i, (long) NONE, x -> x.missed(0, 0, i));
        }
        for (int i : new int[] {LEAST, -1, 31, GREATEST}) {
            refused("missed of " + i, (long) NONE, x -> x.missed(i, 0, 0));
            refused("missed of wrong " + i, (long) NONE, x -> x.missed(0, i, 0));
        }
    }

    /** What only asks is not refused, and changes nothing either. */
    private void asking() {
        refused("same, asked two times", true, x -> x.same(99) == x.same(99));
        refused("camera, asked two times", true, x -> x.camera(2, 50) == x.camera(2, 50));
        refused("nowhere, asked two times", true, x -> x.nowhere(0, 0) == x.nowhere(0, 0));
        refused("missed, asked two times", true, x -> x.missed(0, 0, 1) == x.missed(0, 0, 1));
        refused("waits, asked two times", true, x -> x.waits(5, 0) == x.waits(5, 0));
    }

    private static void nothingIsThereYet(RefusedTest state) {
        state.refused("draw of the first page", NONE, x -> x.draw(1));
        state.refused("out of the first plant", NONE, x -> x.out(0, 1, 70));
        state.refused("paid of nothing", NONE, x -> x.act(0, 1, 3));
        state.refused("heard of nothing", NONE, x -> x.act(0, 2, 3));
        state.refused("cleared of nothing", NONE, x -> x.act(0, 3, 3));
        state.refused("pageAt of the first page", 1, x -> Make.thrown(x, 0));
    }

    private static void notOfTheState(RefusedTest state) {
        int[][] notTold = {{0, 1}, {0, 2}, {0, 3}, {1, 1}, {1, 2}, {2, 2}, {2, 3}, {3, 0}, {3, 1}, {3, 3}};
        for (int[] of : notTold) {
            state.refused("event " + of[1] + " in " + of[0], NONE, x -> x.act(of[0], of[1], 50));
        }
        int[][] samePerson = {{1, 0, 3}, {1, 3, 3}, {2, 0, 3}, {2, 1, 3}, {3, 2, 3}, {4, 0, 50}};
        for (int[] of : samePerson) {
            state.refused("the same person again on " + of[0], NONE, x -> x.act(of[0], of[1], of[2]));
        }
        state.refused("draw of one page more than there are", NONE, x -> x.draw(12));
        state.refused("out of one plant more than there are", NONE, x -> x.out(3, 1, 70));
        state.refused("pageAt one past the last", 1, x -> Make.thrown(x, 11));
    }

    private static void asManyAsCanBeTold(RefusedTest state) {
        state.refused("the 31st page", NONE, x -> x.page(4, 4, 1, 450));
        state.refused("the 31st sale", NONE, x -> x.sale(4, 4, 1, 450));
        state.refused("the ninth plant", NONE, x -> x.plant(5, 1));
        state.refused("the ninth out of plant 0", NONE, x -> x.out(0, 1, 70));
        state.refused("the ninth out of plant 7", NONE, x -> x.out(7, 1, 70));
        state.refused("draw of 31", NONE, x -> x.draw(31));
    }
}
