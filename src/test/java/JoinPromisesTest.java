/** Promises 1 to 10: pages, sales and their joins, with answers reckoned by hand. */
public final class JoinPromisesTest {
    private static final int NONE = BookChecks.NONE;

    public static void main(String[] args) {
        promise1NothingIsTold();
        promise2Page();
        promise3Sale();
        promise4RunByPoints();
        promise4RunOfTheSame();
        promise4RunAnew();
        promise4Edges();
        promise5Pair();
        promise6Points();
        promise7Differs();
        promise8Waits();
        promise9PageAt();
        promise10Balance();
        Due.end();
    }

    private static void promise1NothingIsTold() {
        BookChecks x = new BookChecks(Long.MIN_VALUE);
        Due.is("1 run", x.run(), 0);
        Due.is("1 pair", x.pair(0), NONE);
        Due.is("1 points", x.points(0), 0);
        Due.is("1 differs", x.differs(0), 0);
        Due.is("1 waits", x.waits(0, 0), NONE);
        Due.is("1 pageAt", Make.thrown(x, 0), 1);
        Due.is("1 lacks", x.lacks(0), NONE);
        Due.is("1 nowhere", x.nowhere(0, 0), NONE);
        Due.is("1 out", x.out(0, 0, 1), NONE);
        Due.is("1 drawn", x.drawn(0), NONE);
        Due.is("1 same", x.same(3), true);
        Due.is("1 draw 1", x.draw(1), NONE);
        Due.is("1 missed above", x.missed(0, 0, 0), 1);
        Due.is("1 missed below", x.missed(0, 0, 1), 1);
        for (int i = 0; i < 10; i++) {
            Due.is("1 balance", x.balance(i), 0);
            Due.is("1 camera", x.camera(i, 1000000), 0);
            Due.is("1 state", x.state(i), 0);
            Due.is("1 repeated", x.repeated(i), 0);
        }
        BookChecks y = new BookChecks(1);
        Due.is("1 one object's page", y.page(0, 0, 0, 1), 0);
        Due.is("1 is not another's", x.page(0, 0, 0, 1), 0);
    }

    private static void promise2Page() {
        BookChecks x = new BookChecks(0);
        Due.is("2 ship -1", x.page(-1, 0, 0, 1), NONE);
        Due.is("2 ship 10", x.page(10, 0, 0, 1), NONE);
        Due.is("2 day -1", x.page(0, -1, 0, 1), NONE);
        Due.is("2 day 100001", x.page(0, 100001, 0, 1), NONE);
        Due.is("2 kind -1", x.page(0, 0, -1, 1), NONE);
        Due.is("2 kind 10", x.page(0, 0, 10, 1), NONE);
        Due.is("2 grams 0", x.page(0, 0, 0, 0), NONE);
        Due.is("2 grams -1", x.page(0, 0, 0, -1), NONE);
        Due.is("2 grams too many", x.page(0, 0, 0, 1000000001L), NONE);
        Due.is("2 grams that wrap to 1", x.page(0, 0, 0, 4294967297L), NONE);
        Due.is("2 least", x.page(0, 0, 0, 1), 0);
        Due.is("2 greatest", x.page(9, 100000, 9, 1000000000L), 1);
        for (int i = 2; i < 30; i++) {
            Due.is("2 page", x.page(1, 1, 1, i), i);
        }
        Due.is("2 the 31st", x.page(1, 1, 1, 1), NONE);
        Due.is("2 sales are others", x.sale(1, 1, 1, 1), 0);
        Due.is("2 the refused one changed nothing", x.balance(1), 1 - (29 * 30 / 2 - 1));
    }

    private static void promise3Sale() {
        BookChecks x = new BookChecks(0);
        Due.is("3 ship -1", x.sale(-1, 0, 0, 1), NONE);
        Due.is("3 ship 10", x.sale(10, 0, 0, 1), NONE);
        Due.is("3 day -1", x.sale(0, -1, 0, 1), NONE);
        Due.is("3 day 100001", x.sale(0, 100001, 0, 1), NONE);
        Due.is("3 kind -1", x.sale(0, 0, -1, 1), NONE);
        Due.is("3 kind 10", x.sale(0, 0, 10, 1), NONE);
        Due.is("3 grams 0", x.sale(0, 0, 0, 0), NONE);
        Due.is("3 grams too many", x.sale(0, 0, 0, 1000000001L), NONE);
        Due.is("3 least", x.sale(0, 0, 0, 1), 0);
        Due.is("3 greatest", x.sale(9, 100000, 9, 1000000000L), 1);
        for (int i = 2; i < 30; i++) {
            Due.is("3 sale", x.sale(1, 1, 1, i), i);
        }
        Due.is("3 the 31st", x.sale(1, 1, 1, 1), NONE);
        Due.is("3 pages are others", x.page(1, 1, 1, 1), 0);
    }

    private static void promise4RunByPoints() {
        BookChecks x = new BookChecks(0);
        x.page(0, 10, 0, 1000);
        x.page(0, 11, 0, 1000);
        // With page 0 it has 900 points, with page 1 it has 1000.
        x.sale(0, 11, 0, 1000);
        Due.is("4 one sale", x.run(), 1);
        Due.is("4 the lesser has none", x.pair(0), NONE);
        Due.is("4 the most points", x.pair(1), 0);
        // 800 with page 1; but that one is joined, so that page 0 gets it with 700.
        x.sale(0, 13, 0, 1000);
        Due.is("4 two sales", x.run(), 2);
        Due.is("4 page 0", x.pair(0), 1);
        Due.is("4 page 1", x.pair(1), 0);
        Due.is("4 points of page 0", x.points(0), 700);
    }

    private static void promise4RunOfTheSame() {
        BookChecks x = new BookChecks(0);
        for (int i = 0; i < 3; i++) {
            x.page(4, 7, 8, 500);
        }
        for (int i = 0; i < 2; i++) {
            x.sale(4, 7, 8, 500);
        }
        Due.is("4 the same", x.run(), 2);
        Due.is("4 lesser page, lesser sale", x.pair(0), 0);
        Due.is("4 next page, next sale", x.pair(1), 1);
        Due.is("4 last page", x.pair(2), NONE);
        BookChecks y = new BookChecks(0);
        // 900 points for both pages.
        y.page(0, 5, 0, 10);
        y.page(0, 5, 0, 10);
        y.sale(0, 6, 0, 10);
        Due.is("4 one for two", y.run(), 1);
        Due.is("4 lesser page", y.pair(0), 0);
        Due.is("4 greater page", y.pair(1), NONE);
        BookChecks z = new BookChecks(0);
        // Grams that miss by less than one point are the same points.
        z.page(0, 5, 0, 1000000);
        z.sale(0, 5, 0, 1000001);
        z.sale(0, 5, 0, 1000000);
        Due.is("4 by whole points", z.run(), 1);
        Due.is("4 the lesser sale of the same points", z.pair(0), 0);
        Due.is("4 points down", z.points(0), 1000);
    }

    private static void promise4RunAnew() {
        BookChecks x = new BookChecks(0);
        x.page(0, 10, 0, 1000);
        x.sale(0, 11, 0, 1000);
        Due.is("4 first run", x.run(), 1);
        x.page(0, 11, 0, 1000);
        Due.is("4 what comes later waits", x.pair(1), NONE);
        Due.is("4 what is joined stays so", x.pair(0), 0);
        x.sale(0, 10, 0, 1000);
        Due.is("4 a better sale is not joined yet", x.pair(0), 0);
        Due.is("4 anew", x.run(), 2);
        Due.is("4 page 0 anew", x.pair(0), 1);
        Due.is("4 page 1 anew", x.pair(1), 0);
        Due.is("4 again", x.run(), 2);
        BookChecks y = new BookChecks(0);
        y.page(0, 10, 0, 1000);
        y.sale(0, 11, 0, 1000);
        y.run();
        y.page(0, 11, 0, 1000);
        Due.is("4 taken away", y.run(), 1);
        Due.is("4 page 0 lost it", y.pair(0), NONE);
        Due.is("4 points of page 0", y.points(0), 0);
        Due.is("4 page 0 waits", y.waits(10, 0), 0);
        Due.is("4 page 1 has it", y.pair(1), 0);
    }

    private static int pairsOf(int pageShip, int pageDay, int pageKind, long pageGrams, int[] sale, long saleGrams) {
        BookChecks x = new BookChecks(0);
        x.page(pageShip, pageDay, pageKind, pageGrams);
        x.sale(sale[0], sale[1], sale[2], saleGrams);
        return x.run();
    }

    private static void promise4Edges() {
        Due.is("4 alike", pairsOf(1, 10, 2, 100, new int[] {1, 10, 2}, 100), 1);
        Due.is("4 other ship", pairsOf(1, 10, 2, 100, new int[] {2, 10, 2}, 100), 0);
        Due.is("4 other kind", pairsOf(1, 10, 2, 100, new int[] {1, 10, 1}, 100), 0);
        Due.is("4 the day before", pairsOf(1, 10, 2, 100, new int[] {1, 9, 2}, 100), 0);
        Due.is("4 five days later", pairsOf(1, 10, 2, 100, new int[] {1, 15, 2}, 100), 1);
        Due.is("4 six days later", pairsOf(1, 10, 2, 100, new int[] {1, 16, 2}, 100), 0);
        // 500 - 900 * 5 / 9 = 0 points, with a gram more in the sale 1 point.
        Due.is("4 0 points", pairsOf(1, 10, 2, 9000, new int[] {1, 15, 2}, 4000), 0);
        Due.is("4 1 point", pairsOf(1, 10, 2, 9000, new int[] {1, 15, 2}, 4001), 1);
        Due.is("4 less than 0 points", pairsOf(1, 10, 2, 9000, new int[] {1, 15, 2}, 1), 0);
        Due.is("4 greatest grams", pairsOf(1, 10, 2, 1, new int[] {1, 10, 2}, 1000000000L), 1);
    }

    private static BookChecks joined() {
        BookChecks x = new BookChecks(0);
        x.page(0, 10, 0, 300);
        x.page(0, 50, 0, 900);
        x.page(0, 90, 0, 700);
        x.sale(0, 51, 0, 600);
        x.sale(0, 13, 0, 900);
        x.run();
        return x;
    }

    private static void promise5Pair() {
        BookChecks x = joined();
        Due.is("5 page 0", x.pair(0), 1);
        Due.is("5 page 1", x.pair(1), 0);
        Due.is("5 page 2", x.pair(2), NONE);
        Due.is("5 page 3", x.pair(3), NONE);
        Due.is("5 page 30", x.pair(30), NONE);
        Due.is("5 page -1", x.pair(-1), NONE);
        Due.is("5 least", x.pair(Integer.MIN_VALUE), NONE);
    }

    private static void promise6Points() {
        BookChecks x = joined();
        Due.is("6 sale over page", x.points(0), 1000 - 300 - 600);
        Due.is("6 page over sale", x.points(1), 1000 - 100 - 300);
        Due.is("6 not joined", x.points(2), 0);
        Due.is("6 page 3", x.points(3), 0);
        Due.is("6 page -1", x.points(-1), 0);
        Due.is("6 page 30", x.points(30), 0);
        BookChecks y = new BookChecks(0);
        y.page(0, 0, 0, 1);
        y.sale(0, 0, 0, 1000000000L);
        y.run();
        // 900 * 999999999 / 1000000000 is 899 and a rest.
        Due.is("6 what is lost is rounded down", y.points(0), 101);
    }

    private static void promise7Differs() {
        BookChecks x = joined();
        Due.is("7 more", x.differs(0), 600);
        Due.is("7 less", x.differs(1), -300);
        Due.is("7 not joined", x.differs(2), 0);
        Due.is("7 page 3", x.differs(3), 0);
        Due.is("7 page -1", x.differs(-1), 0);
        Due.is("7 page 30", x.differs(30), 0);
    }

    private static void promise8Waits() {
        BookChecks x = new BookChecks(0);
        x.page(0, 10, 0, 300);
        x.page(1, 15, 0, 300);
        x.page(0, 16, 0, 300);
        x.page(0, 12, 0, 300);
        x.sale(1, 15, 0, 300);
        Due.is("8 first", x.waits(15, 0), 0);
        Due.is("8 second", x.waits(15, 1), 1);
        Due.is("8 third, by numbers", x.waits(15, 2), 3);
        Due.is("8 fourth", x.waits(15, 3), NONE);
        Due.is("8 six days before", x.waits(16, 0), 1);
        Due.is("8 one is joined", x.run(), 1);
        Due.is("8 joined", x.waits(15, 1), 3);
        Due.is("8 the day itself", x.waits(10, 0), 0);
        Due.is("8 the day before", x.waits(9, 0), NONE);
        Due.is("8 k -1", x.waits(15, -1), NONE);
        Due.is("8 k least", x.waits(15, Integer.MIN_VALUE), NONE);
        Due.is("8 day least", x.waits(Integer.MIN_VALUE, 0), NONE);
        Due.is("8 day greatest", x.waits(Integer.MAX_VALUE, 0), NONE);
        BookChecks y = new BookChecks(0);
        y.page(0, 0, 0, 1);
        y.page(0, 100000, 0, 1);
        Due.is("8 day 5", y.waits(5, 0), 0);
        Due.is("8 day 6", y.waits(6, 0), NONE);
        Due.is("8 last day", y.waits(100000, 0), 1);
        Due.is("8 five behind the last day", y.waits(100005, 0), 1);
        Due.is("8 six behind the last day", y.waits(100006, 0), NONE);
    }

    private static void promise9PageAt() {
        BookChecks x = joined();
        Due.is("9 page 0", x.pageAt(0), 300);
        Due.is("9 page 1", x.pageAt(1), 900);
        Due.is("9 page 2", x.pageAt(2), 700);
        Due.is("9 page 3", Make.thrown(x, 3), 1);
        Due.is("9 page 29", Make.thrown(x, 29), 1);
        Due.is("9 page 30", Make.thrown(x, 30), 1);
        Due.is("9 page -1", Make.thrown(x, -1), 1);
        Due.is("9 greatest", Make.thrown(x, Integer.MAX_VALUE), 1);
        Due.is("9 least", Make.thrown(x, Integer.MIN_VALUE), 1);
    }

    private static void promise10Balance() {
        BookChecks x = new BookChecks(0);
        x.page(0, 10, 9, 300);
        x.page(1, 20, 9, 50);
        x.sale(2, 30, 9, 100);
        x.sale(2, 30, 0, 7);
        Due.is("10 less", x.balance(9), -250);
        Due.is("10 more", x.balance(0), 7);
        Due.is("10 none", x.balance(5), 0);
        Due.is("10 kind -1", x.balance(-1), 0);
        Due.is("10 kind 10", x.balance(10), 0);
        for (int i = 0; i < 29; i++) {
            x.sale(0, 0, 4, 1000000000L);
        }
        Due.is("10 beyond an int", x.balance(4), 28000000000L);
    }
}
