/** Objects in the states that several tests begin with, and what tests ask in the same way. */
final class Make {
    private static final long FACTOR = 6364136223846793005L;
    private static final long ADDEND = 1442695040888963407L;

    private Make() {
    }

    /** A page of each of these ships. */
    static BookChecks withPages(long seed, int... ships) {
        BookChecks x = new BookChecks(seed);
        for (int ship : ships) {
            x.page(ship, 0, 0, 1);
        }
        return x;
    }

    /** A plant of kind 3; a negative number stands for an out of another kind. */
    static BookChecks plantWith(long in, long... outs) {
        BookChecks x = new BookChecks(0);
        x.plant(in, 3);
        for (long grams : outs) {
            x.out(0, grams > 0 ? 3 : 4, Math.abs(grams));
        }
        return x;
    }

    /** The seed from which the first step of a draw makes x. */
    static long seedBefore(long x) {
        long inverse = 1;
        for (int i = 0; i < 7; i++) {
            inverse *= 2 - FACTOR * inverse;
        }
        return (x - ADDEND) * inverse;
    }

    /** 1 when pageAt throws what the document names, 2 for another class, 0 when it answers. */
    static int thrown(BookChecks x, int page) {
        try {
            x.pageAt(page);
            return 0;
        } catch (RuntimeException e) {
            return e.getClass() == IndexOutOfBoundsException.class ? 1 : 2;
        }
    }

    static void rowIs(String call, BookChecks x, int... want) {
        for (int k = 0; k < want.length; k++) {
            Due.is(call + " at " + k, x.drawn(k), want[k]);
        }
        Due.is(call + " behind", x.drawn(want.length), BookChecks.NONE);
    }

    static void nowhereIs(String call, BookChecks x, int... want) {
        for (int k = 0; k < want.length; k++) {
            Due.is(call + " at " + k, x.nowhere(0, k), want[k]);
        }
        Due.is(call + " behind", x.nowhere(0, want.length), BookChecks.NONE);
        Due.is(call + " before", x.nowhere(0, -1), BookChecks.NONE);
    }
}
