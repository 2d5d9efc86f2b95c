/** Promises 11 to 14: plants and what came from nowhere, with answers reckoned by hand. */
public final class PlantPromisesTest {
    private static final int NONE = BookChecks.NONE;

    public static void main(String[] args) {
        promise11Plant();
        promise12Out();
        promise13Lacks();
        promise14Nowhere();
        promise14Order();
        promise14Edges();
        Due.end();
    }

    private static void promise11Plant() {
        BookChecks x = new BookChecks(0);
        Due.is("11 in -1", x.plant(-1, 0), NONE);
        Due.is("11 in too many", x.plant(1000000001L, 0), NONE);
        Due.is("11 kind -1", x.plant(0, -1), NONE);
        Due.is("11 kind 10", x.plant(0, 10), NONE);
        Due.is("11 least", x.plant(0, 0), 0);
        Due.is("11 greatest", x.plant(1000000000L, 9), 1);
        for (int i = 2; i < 8; i++) {
            Due.is("11 plant", x.plant(i, 5), i);
        }
        Due.is("11 the ninth", x.plant(0, 0), NONE);
        Due.is("11 the refused is none", x.lacks(8), NONE);
    }

    private static void promise12Out() {
        BookChecks x = new BookChecks(0);
        Due.is("12 no plant", x.out(0, 0, 1), NONE);
        x.plant(0, 0);
        x.plant(0, 0);
        Due.is("12 plant -1", x.out(-1, 0, 1), NONE);
        Due.is("12 plant 2", x.out(2, 0, 1), NONE);
        Due.is("12 kind -1", x.out(0, -1, 1), NONE);
        Due.is("12 kind 10", x.out(0, 10, 1), NONE);
        Due.is("12 grams 0", x.out(0, 0, 0), NONE);
        Due.is("12 grams too many", x.out(0, 0, 1000000001L), NONE);
        Due.is("12 nothing was changed", x.lacks(0), 0);
        for (int i = 0; i < 8; i++) {
            Due.is("12 out of 0", x.out(0, i, 1000000000L), i);
        }
        Due.is("12 the ninth", x.out(0, 0, 1), NONE);
        Due.is("12 numbers are each plant's own", x.out(1, 9, 1), 0);
        Due.is("12 the ninth changed nothing", x.lacks(0), 1000000000L);
    }

    private static void promise13Lacks() {
        Due.is("13 no out", Make.plantWith(5).lacks(0), 0);
        Due.is("13 as much", Make.plantWith(5, 2, 3).lacks(0), 0);
        Due.is("13 less", Make.plantWith(5, 2).lacks(0), 0);
        Due.is("13 more", Make.plantWith(5, 2, 3, 1).lacks(0), 1);
        Due.is("13 other kinds are not counted", Make.plantWith(5, 2, -900).lacks(0), 0);
        Due.is("13 beyond an int", Make.plantWith(0, 1000000000L, 1000000000L, 1000000000L).lacks(0), 3000000000L);
        Due.is("13 plant -1", Make.plantWith(5).lacks(-1), NONE);
        Due.is("13 plant 1", Make.plantWith(5).lacks(1), NONE);
        BookChecks x = Make.plantWith(5, 9);
        x.plant(1, 4);
        x.out(1, 4, 3);
        Due.is("13 plant 0 of two", x.lacks(0), 4);
        Due.is("13 plant 1 of two", x.lacks(1), 2);
    }

    private static void promise14Nowhere() {
        Make.nowhereIs("14 nothing lacks", Make.plantWith(5, 2, 3));
        Make.nowhereIs("14 no out", Make.plantWith(0));
        Make.nowhereIs("14 all lacks", Make.plantWith(0, 2, 3), 0, 1);
        // 6 lack: no single out is enough but the last.
        Make.nowhereIs("14 the one that is enough", Make.plantWith(10, 3, 4, 2, 7), 3);
        // 9 lack: of the pairs 0 3, 1 3 and 2 3 the first.
        Make.nowhereIs("14 the fewest", Make.plantWith(7, 3, 4, 2, 7), 0, 3);
        // 3 lack: out 0 alone is just enough.
        Make.nowhereIs("14 just enough", Make.plantWith(13, 3, 4, 2, 7), 0);
        Make.nowhereIs("14 other kinds never", Make.plantWith(4, -900, 3, -900, 4), 1);
        Due.is("14 plant 1", Make.plantWith(0, 2).nowhere(1, 0), NONE);
        Due.is("14 plant -1", Make.plantWith(0, 2).nowhere(-1, 0), NONE);
    }

    private static void promise14Order() {
        // 10 lack: 0 3 and 1 2 have just that, and 0 is the lesser where they differ first.
        Make.nowhereIs("14 0 3 before 1 2", Make.plantWith(10, 4, 5, 5, 6), 0, 3);
        // 11 lack: out 0 is too light for any pair.
        Make.nowhereIs("14 1 2 before 1 3", Make.plantWith(15, 1, 8, 8, 9), 1, 2);
        // 10 lack: 0 4 reaches it and 0 1 to 0 3 do not; 1 2 would too, but differs first at 1.
        Make.nowhereIs("14 0 4 before 1 2", Make.plantWith(16, 2, 5, 5, 5, 9), 0, 4);
    }

    private static void promise14Edges() {
        long g = 1000000000L;
        Make.nowhereIs("14 all eight", Make.plantWith(0, g, g, g, g, g, g, g, g), 0, 1, 2, 3, 4, 5, 6, 7);
        Make.nowhereIs("14 seven of eight", Make.plantWith(g, g, g, g, g, g, g, g, g), 0, 1, 2, 3, 4, 5, 6);
        Make.nowhereIs("14 the last of eight", Make.plantWith(7, 1, 1, 1, 1, 1, 1, 1, 9), 7);
        BookChecks x = Make.plantWith(0, 5);
        Make.nowhereIs("14 one", x, 0);
        x.out(0, 3, 9);
        Make.nowhereIs("14 with a later out", x, 0, 1);
        Due.is("14 k least", x.nowhere(0, Integer.MIN_VALUE), NONE);
        Due.is("14 k greatest", x.nowhere(0, Integer.MAX_VALUE), NONE);
    }
}
