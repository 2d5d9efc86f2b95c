/** Promises 11 to 14: for each sentence that names a boundary case of plants, a test of its own. */
public final class PlantEdgesTest {
    private static final int NONE = BookChecks.NONE;
    private static final int LEAST = Integer.MIN_VALUE;
    private static final int GREATEST = Integer.MAX_VALUE;
    private static final long BILLION = 1000000000L;

    public static void main(String[] args) {
        promise11GramsIn();
        promise11Kinds();
        promise11EightAndNoMore();
        promise12NoSuchPlant();
        promise12Kinds();
        promise12Grams();
        promise12EightEachAndNoMore();
        promise12LastOutOfLastPlant();
        promise13NoSuchPlant();
        promise13MoreThanCameIn();
        promise13OwnKindAlone();
        promise13BeyondAnInt();
        promise13RefusedIsNotCounted();
        promise14NoneWhenNothingLacks();
        promise14NotLessThanLacks();
        promise14Fewest();
        promise14LesserWhereTheyDifferFirst();
        promise14OwnKindAlone();
        promise14AsManyAsEachNumber();
        promise14Places();
        promise14NoSuchPlant();
        Due.end();
    }

    // "grams that came in (0 .. 1000000000)"
    private static void promise11GramsIn() {
        BookChecks x = new BookChecks(0);
        long[] wrong = {
            Long.MIN_VALUE, -BILLION, -1, BILLION + 1, GREATEST, 1L << 32, (1L << 32) + 1, Long.MAX_VALUE
        };
        for (long in : wrong) {
            Due.is("11 in " + in, x.plant(in, 1), NONE);
        }
        Due.is("11 in 0", x.plant(0, 1), 0);
        Due.is("11 in 1", x.plant(1, 1), 1);
        Due.is("11 one less than the most", x.plant(BILLION - 1, 1), 2);
        Due.is("11 the most", x.plant(BILLION, 1), 3);
    }

    // "KINDS of fish are 0 .. 9"
    private static void promise11Kinds() {
        BookChecks x = new BookChecks(0);
        for (int kind : new int[] {LEAST, -10, -1, 10, 11, GREATEST}) {
            Due.is("11 kind " + kind, x.plant(1, kind), NONE);
        }
        for (int kind = 0; kind < 8; kind++) {
            Due.is("11 kind " + kind, x.plant(1, kind), kind);
        }
        BookChecks y = new BookChecks(0);
        Due.is("11 kind 9", y.plant(1, 9), 0);
        Due.is("11 kind 8", y.plant(1, 8), 1);
        Due.is("11 both too small", y.plant(-1, -1), NONE);
        Due.is("11 both too great", y.plant(BILLION + 1, 10), NONE);
        Due.is("11 refused ones took no number", y.plant(0, 0), 2);
    }

    // "PLANTS, 8", "NONE when .. there are 8"
    private static void promise11EightAndNoMore() {
        BookChecks x = new BookChecks(0);
        for (int i = 0; i < 8; i++) {
            Due.is("11 not there yet", x.lacks(i), NONE);
            Due.is("11 until there are 8", x.plant(0, 5), i);
            Due.is("11 there now", x.lacks(i), 0);
        }
        Due.is("11 the ninth", x.plant(0, 5), NONE);
        Due.is("11 the tenth", x.plant(BILLION, 9), NONE);
        Due.is("11 a wrong one when there are 8", x.plant(-1, 5), NONE);
        Due.is("11 plant 8 is none", x.lacks(8), NONE);
        Due.is("11 and has no outs", x.out(8, 5, 1), NONE);
        x.out(0, 5, 3);
        x.out(7, 5, 4);
        Due.is("11 the first is as it was", x.lacks(0), 3);
        Due.is("11 the last is as it was", x.lacks(7), 4);
    }

    // "NONE when a number is none such": the plant's
    private static void promise12NoSuchPlant() {
        BookChecks x = new BookChecks(0);
        Due.is("12 nothing told", x.out(0, 1, 1), NONE);
        x.plant(0, 1);
        for (int plant : new int[] {LEAST, -2, -1, 1, 7, 8, 9, GREATEST}) {
            Due.is("12 plant " + plant, x.out(plant, 1, 1), NONE);
        }
        Due.is("12 nothing went to plant 0", x.lacks(0), 0);
        Due.is("12 plant 0", x.out(0, 1, 1), 0);
        x.plant(0, 1);
        Due.is("12 plant 1, when there is one", x.out(1, 1, 1), 0);
    }

    // "KINDS of fish are 0 .. 9"
    private static void promise12Kinds() {
        BookChecks x = new BookChecks(0);
        x.plant(0, 9);
        x.plant(0, 0);
        for (int kind : new int[] {LEAST, -10, -1, 10, 11, GREATEST}) {
            Due.is("12 kind " + kind, x.out(0, kind, 1), NONE);
        }
        for (int kind = 0; kind < 8; kind++) {
            Due.is("12 kind " + kind, x.out(1, kind, 1), kind);
        }
        Due.is("12 kind 9", x.out(0, 9, 1), 0);
        Due.is("12 kind 8", x.out(0, 8, 1), 1);
    }

    // "OUTS .. of a kind and grams (1 .. 1000000000)"
    private static void promise12Grams() {
        BookChecks x = new BookChecks(0);
        x.plant(0, 1);
        long[] wrong = {
            Long.MIN_VALUE, Long.MIN_VALUE + 1, -BILLION, -1, 0, BILLION + 1, GREATEST, (1L << 32) + 1, Long.MAX_VALUE
        };
        for (long grams : wrong) {
            Due.is("12 grams " + grams, x.out(0, 1, grams), NONE);
        }
        Due.is("12 1 gram", x.out(0, 1, 1), 0);
        Due.is("12 one less than the most", x.out(0, 1, BILLION - 1), 1);
        Due.is("12 the most", x.out(0, 1, BILLION), 2);
        Due.is("12 together", x.lacks(0), 2 * BILLION);
    }

    // "OUTS, 8 each", "NONE when .. it has 8"
    private static void promise12EightEachAndNoMore() {
        BookChecks x = new BookChecks(0);
        for (int i = 0; i < 8; i++) {
            x.plant(0, 1);
        }
        for (int plant = 7; plant >= 0; plant--) {
            for (int i = 0; i < 8; i++) {
                Due.is("12 out of plant " + plant, x.out(plant, 1, plant + 1), i);
            }
            Due.is("12 the ninth of plant " + plant, x.out(plant, 1, 1), NONE);
            Due.is("12 of another kind", x.out(plant, 2, BILLION), NONE);
        }
        for (int plant = 0; plant < 8; plant++) {
            Due.is("12 the ninth changed nothing", x.lacks(plant), 8 * (plant + 1));
        }
    }

    private static void promise12LastOutOfLastPlant() {
        BookChecks x = new BookChecks(0);
        for (int i = 0; i < 8; i++) {
            x.plant(7, 1);
        }
        for (int i = 0; i < 7; i++) {
            x.out(7, 1, 1);
        }
        Due.is("12 seven of the last plant", x.lacks(7), 0);
        Due.is("12 the last of all", x.out(7, 1, BILLION), 7);
        Due.is("12 is counted", x.lacks(7), BILLION);
        Due.is("12 and named", x.nowhere(7, 0), 7);
        Due.is("12 other plants have none", x.lacks(6), 0);
    }

    // "NONE when there is none such"
    private static void promise13NoSuchPlant() {
        BookChecks x = new BookChecks(0);
        Due.is("13 nothing told", x.lacks(0), NONE);
        x.plant(-1, 3);
        Due.is("13 a refused plant is none", x.lacks(0), NONE);
        x.plant(0, 3);
        for (int plant : new int[] {LEAST, -2, -1, 1, 7, 8, 9, GREATEST}) {
            Due.is("13 plant " + plant, x.lacks(plant), NONE);
        }
        Due.is("13 plant 0", x.lacks(0), 0);
    }

    // "What OUTS of the plant's own kind are together more than came in, LACKS."
    private static void promise13MoreThanCameIn() {
        Due.is("13 no outs, nothing in", Make.plantWith(0).lacks(0), 0);
        Due.is("13 no outs", Make.plantWith(BILLION).lacks(0), 0);
        Due.is("13 one gram less", Make.plantWith(10, 4, 5).lacks(0), 0);
        Due.is("13 as much", Make.plantWith(10, 4, 6).lacks(0), 0);
        Due.is("13 one gram more", Make.plantWith(10, 4, 7).lacks(0), 1);
        Due.is("13 nothing in, least out", Make.plantWith(0, 1).lacks(0), 1);
        Due.is("13 the most in, the most out", Make.plantWith(BILLION, BILLION).lacks(0), 0);
        Due.is("13 one gram beyond", Make.plantWith(BILLION, BILLION, 1).lacks(0), 1);
        Due.is("13 the most in, the least out", Make.plantWith(BILLION, 1).lacks(0), 0);
    }

    private static void promise13OwnKindAlone() {
        Due.is("13 other kinds alone", Make.plantWith(0, -5, -BILLION).lacks(0), 0);
        Due.is("13 among other kinds", Make.plantWith(0, -5, 2, -BILLION).lacks(0), 2);
        for (int kind = 0; kind < 10; kind++) {
            BookChecks x = new BookChecks(0);
            x.plant(0, kind);
            x.out(0, kind, 7);
            x.out(0, (kind + 1) % 10, 100);
            Due.is("13 a plant of kind " + kind, x.lacks(0), 7);
        }
    }

    private static void promise13BeyondAnInt() {
        long g = BILLION;
        Due.is("13 eight greatest, nothing in", Make.plantWith(0, g, g, g, g, g, g, g, g).lacks(0), 8 * g);
        Due.is("13 eight greatest, the most in", Make.plantWith(g, g, g, g, g, g, g, g, g).lacks(0), 7 * g);
        // 2^31 and 2^32 grams would be negative, or none, as an int.
        Due.is("13 2^31", Make.plantWith(0, g, g, 147483648L).lacks(0), 1L << 31);
        Due.is("13 2^32", Make.plantWith(0, g, g, g, g, 294967296L).lacks(0), 1L << 32);
    }

    // "What is refused changes nothing."
    private static void promise13RefusedIsNotCounted() {
        BookChecks x = Make.plantWith(0, 5);
        x.out(0, 3, 0);
        x.out(0, 3, BILLION + 1);
        x.out(0, 10, 9);
        x.out(1, 3, 9);
        Due.is("13 refused outs", x.lacks(0), 5);
        x.plant(100, 10);
        Due.is("13 a refused plant", x.lacks(0), 5);
    }

    // "none when nothing does"
    private static void promise14NoneWhenNothingLacks() {
        Make.nowhereIs("14 no outs", Make.plantWith(0));
        Make.nowhereIs("14 as much as came in", Make.plantWith(10, 4, 6));
        Make.nowhereIs("14 less than came in", Make.plantWith(10, 4, 5));
        Make.nowhereIs("14 other kinds alone", Make.plantWith(0, -4, -5));
        Make.nowhereIs("14 one gram more", Make.plantWith(10, 4, 7), 0);
    }

    // "together not less than what LACKS"
    private static void promise14NotLessThanLacks() {
        // 5 lack each time: the first out is just enough, or a gram too light.
        Make.nowhereIs("14 one just enough", Make.plantWith(10, 5, 10), 0);
        Make.nowhereIs("14 one a gram too light", Make.plantWith(9, 4, 10), 1);
        // 9 lack: the first two have 9, and then 8.
        Make.nowhereIs("14 two just enough", Make.plantWith(8, 4, 5, 4, 4), 0, 1);
        Make.nowhereIs("14 two a gram too light", Make.plantWith(8, 4, 4, 5, 4), 0, 2);
        long g = BILLION;
        // All but a gram lacks, so that none of the greatest can be left out.
        Make.nowhereIs("14 all but a gram", Make.plantWith(1, g, g, g), 0, 1, 2);
        Make.nowhereIs("14 a gram over two", Make.plantWith(g - 1, g, g, g), 0, 1, 2);
        Make.nowhereIs("14 just two", Make.plantWith(g, g, g, g), 0, 1);
    }

    // "the fewest of these"
    private static void promise14Fewest() {
        // 7 lack: the last alone, though 0 1 have just 7.
        Make.nowhereIs("14 one before two", Make.plantWith(14, 3, 4, 2, 12), 3);
        // 12 lack: 3 4 have 12, no other two, though 0 1 2 have 12 too.
        Make.nowhereIs("14 two before three", Make.plantWith(12, 4, 4, 4, 6, 6), 3, 4);
        // 7 lack: the last alone has 7, all seven before it as well.
        Make.nowhereIs("14 one before seven", Make.plantWith(7, 1, 1, 1, 1, 1, 1, 1, 7), 7);
    }

    // "of several such sets the one with the lesser out where they differ first"
    private static void promise14LesserWhereTheyDifferFirst() {
        Make.nowhereIs("14 the first of the same", Make.plantWith(21, 3, 3, 3, 3, 3, 3, 3, 3), 0);
        Make.nowhereIs("14 the first two of the same", Make.plantWith(18, 3, 3, 3, 3, 3, 3, 3, 3), 0, 1);
        // 6 lack: out 0 has 6 though out 1 has more.
        Make.nowhereIs("14 the lesser, not the heavier", Make.plantWith(9, 6, 9), 0);
        // 10 lack: 0 7 and 1 2 and 6 7: they differ at 0 first.
        Make.nowhereIs("14 first and last", Make.plantWith(20, 1, 5, 5, 1, 1, 1, 7, 9), 0, 7);
        // 15 lack: 0 1 7 comes before 0 2 3, as they differ at 1 first; 0 1 and any other have too little.
        Make.nowhereIs("14 the second place decides", Make.plantWith(18, 5, 1, 5, 5, 3, 2, 3, 9), 0, 1, 7);
        // 9 lack: 1 2 before 1 3; out 0 is too light.
        Make.nowhereIs("14 the last place decides", Make.plantWith(10, 1, 5, 4, 4, 5), 1, 2);
    }

    private static void promise14OwnKindAlone() {
        Make.nowhereIs("14 heavy ones of others", Make.plantWith(1, -BILLION, 2, -BILLION, 2, -BILLION), 1, 3);
        Make.nowhereIs("14 the last of eight", Make.plantWith(0, -9, -9, -9, -9, -9, -9, -9, 1), 7);
        Make.nowhereIs("14 the first of eight", Make.plantWith(0, 1, -9, -9, -9, -9, -9, -9, -9), 0);
    }

    /** Of eight outs of 10 grams each so many lack that one to eight of them are needed. */
    private static void promise14AsManyAsEachNumber() {
        for (int needed = 1; needed <= 8; needed++) {
            int[] due = new int[needed];
            for (int i = 0; i < needed; i++) {
                due[i] = i;
            }
            Make.nowhereIs("14 just " + needed, Make.plantWith(80 - 10 * needed, 10, 10, 10, 10, 10, 10, 10, 10), due);
            Make.nowhereIs("14 a gram over " + (needed - 1),
                Make.plantWith(80 - 10 * needed + 9, 10, 10, 10, 10, 10, 10, 10, 10), due);
        }
        Make.nowhereIs("14 none of eight", Make.plantWith(80, 10, 10, 10, 10, 10, 10, 10, 10));
    }

    // "The k-th .., by numbers; NONE when there is none."
    private static void promise14Places() {
        BookChecks x = Make.plantWith(0, 10, -4, 10);
        Due.is("14 first", x.nowhere(0, 0), 0);
        Due.is("14 second", x.nowhere(0, 1), 2);
        for (int k : new int[] {LEAST, -2, -1, 2, 3, 7, 8, 9, GREATEST}) {
            Due.is("14 place " + k, x.nowhere(0, k), NONE);
        }
    }

    private static void promise14NoSuchPlant() {
        BookChecks x = new BookChecks(0);
        Due.is("14 nothing told", x.nowhere(0, 0), NONE);
        for (int i = 0; i < 8; i++) {
            x.plant(0, 1);
            x.out(i, 1, 5);
        }
        for (int plant : new int[] {LEAST, -2, -1, 8, 9, GREATEST}) {
            Due.is("14 plant " + plant, x.nowhere(plant, 0), NONE);
        }
        for (int plant = 0; plant < 8; plant++) {
            Due.is("14 plant " + plant, x.nowhere(plant, 0), 0);
        }
    }
}
