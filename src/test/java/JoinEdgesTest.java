/** Promises 4 to 8: for each sentence that names a boundary case of joins, a test of its own. */
public final class JoinEdgesTest {
    private static final int NONE = BookChecks.NONE;
    private static final int LEAST = Integer.MIN_VALUE;
    private static final int GREATEST = Integer.MAX_VALUE;
    private static final long BILLION = 1000000000L;

    public static void main(String[] args) {
        promise4Nothing();
        promise4SameShipAndKind();
        promise4FiveNextDays();
        promise4FirstAndLastDays();
        promise4PointsAbove0();
        promise4LeastPoints();
        promise4MostPointsFirst();
        promise4LesserPageThenLesserSale();
        promise4FullBooks();
        promise4LaterIsNotJoined();
        promise4RefusedIsNotJoined();
        promise4JoinedAnew();
        promise5NoneSuch();
        promise5FirstAndLast();
        promise6NoSale();
        promise6LessForEachDay();
        promise6Down();
        promise6GreatestGrams();
        promise7NoSale();
        promise7MostAndLeast();
        promise8FiveDaysBefore();
        promise8FirstAndLastDays();
        promise8FarDays();
        promise8Places();
        promise8NotJoined();
        promise8FullBook();
        Due.end();
    }

    /** A page of ship 1, kind 2 and a sale of the same. */
    private static BookChecks two(int pageDay, long pageGrams, int saleDay, long saleGrams) {
        BookChecks x = new BookChecks(0);
        x.page(1, pageDay, 2, pageGrams);
        x.sale(1, saleDay, 2, saleGrams);
        return x;
    }

    private static void joinIs(String call, BookChecks x, int points) {
        Due.is(call + ": pairs", x.run(), points > 0 ? 1 : 0);
        Due.is(call + ": pair", x.pair(0), points > 0 ? 0 : NONE);
        Due.is(call + ": points", x.points(0), points);
    }

    // "how many pairs": none when nothing is told, or only pages, or only sales
    private static void promise4Nothing() {
        BookChecks x = new BookChecks(0);
        Due.is("4 nothing told", x.run(), 0);
        x.page(0, 0, 0, 1);
        Due.is("4 only a page", x.run(), 0);
        Due.is("4 its pair", x.pair(0), NONE);
        BookChecks y = new BookChecks(0);
        y.sale(0, 0, 0, 1);
        Due.is("4 only a sale", y.run(), 0);
        y.page(0, 0, 0, 1);
        Due.is("4 the first two", y.run(), 1);
        Due.is("4 again", y.run(), 1);
    }

    // "ship and kind are the same"
    private static void promise4SameShipAndKind() {
        for (int ship = 0; ship < 10; ship++) {
            for (int kind = 0; kind < 10; kind++) {
                BookChecks x = new BookChecks(0);
                x.page(9, 5, 0, 10);
                x.sale(ship, 5, kind, 10);
                Due.is("4 ship " + ship + ", kind " + kind, x.run(), ship == 9 && kind == 0 ? 1 : 0);
            }
        }
    }

    // "the sale's day is the page's or one of the five next"
    private static void promise4FiveNextDays() {
        for (int later = -7; later <= 7; later++) {
            int points = later < 0 || later > 5 ? 0 : 1000 - 100 * later;
            joinIs("4 " + later + " days later", two(50, 10, 50 + later, 10), points);
        }
    }

    private static void promise4FirstAndLastDays() {
        joinIs("4 both on day 0", two(0, 10, 0, 10), 1000);
        joinIs("4 day 0 and 5", two(0, 10, 5, 10), 500);
        joinIs("4 day 0 and 6", two(0, 10, 6, 10), 0);
        joinIs("4 day 1 and 0", two(1, 10, 0, 10), 0);
        joinIs("4 both on the last day", two(100000, 10, 100000, 10), 1000);
        joinIs("4 five before the last day", two(99995, 10, 100000, 10), 500);
        joinIs("4 six before the last day", two(99994, 10, 100000, 10), 0);
        joinIs("4 the last day and the one before", two(100000, 10, 99999, 10), 0);
        joinIs("4 first and last day", two(0, 10, 100000, 10), 0);
        joinIs("4 last and first day", two(100000, 10, 0, 10), 0);
    }

    // "their POINTS are above 0": of 9000 grams each 10 that differ take 1 point
    private static void promise4PointsAbove0() {
        for (int later = 2; later <= 5; later++) {
            long whole = 10 * (1000 - 100 * later);
            joinIs("4 page has more, 0 points", two(50, 9000, 50 + later, 9000 - whole), 0);
            joinIs("4 page has more, 1 point", two(50, 9000, 50 + later, 9000 - whole + 1), 1);
            joinIs("4 sale has more, 0 points", two(50, 9000 - whole, 50 + later, 9000), 0);
            joinIs("4 sale has more, 1 point", two(50, 9000 - whole + 1, 50 + later, 9000), 1);
            joinIs("4 below 0 points", two(50, 9000, 50 + later, 9000 - whole - 10), 0);
        }
    }

    private static void promise4LeastPoints() {
        // Grams take 899 at most, so that on the day and the next one all that is alike fits.
        joinIs("4 least grams, the day", two(7, 1, 7, BILLION), 101);
        joinIs("4 least grams, the next day", two(7, BILLION, 8, 1), 1);
        joinIs("4 least grams, two days", two(7, 1, 9, BILLION), 0);
        joinIs("4 least grams, five days", two(7, BILLION, 12, 1), 0);
    }

    // "the two with the most POINTS are joined": not those that leave the most pairs
    private static void promise4MostPointsFirst() {
        BookChecks x = new BookChecks(0);
        x.page(0, 5, 0, 10);
        x.page(0, 10, 0, 10);
        x.sale(0, 11, 0, 10);
        x.sale(0, 10, 0, 10);
        // Page 0 fits sale 1 alone, with 500; page 1 has 1000 there, and 900 with sale 0.
        Due.is("4 one pair", x.run(), 1);
        Due.is("4 the page with 500", x.pair(0), NONE);
        Due.is("4 the page with 1000", x.pair(1), 1);
        BookChecks y = new BookChecks(0);
        // 999 points and 1000: one point decides.
        y.page(0, 5, 0, 899);
        y.page(0, 5, 0, 900);
        y.sale(0, 5, 0, 900);
        Due.is("4 one point more", y.run(), 1);
        Due.is("4 the page with 999", y.pair(0), NONE);
        Due.is("4 the page with a point more", y.pair(1), 0);
    }

    // "of the same the one with the lesser page, then the lesser sale"
    private static void promise4LesserPageThenLesserSale() {
        BookChecks x = new BookChecks(0);
        x.page(0, 5, 0, 10);
        x.page(0, 5, 0, 10);
        x.sale(0, 5, 0, 10);
        Due.is("4 two pages, one sale", x.run(), 1);
        Due.is("4 the lesser page", x.pair(0), 0);
        Due.is("4 the greater page", x.pair(1), NONE);
        BookChecks y = new BookChecks(0);
        y.page(0, 5, 0, 10);
        y.sale(0, 7, 0, 10);
        y.sale(0, 6, 0, 10);
        y.sale(0, 6, 0, 10);
        Due.is("4 one page, three sales", y.run(), 1);
        Due.is("4 the lesser of the best sales", y.pair(0), 1);
        BookChecks z = new BookChecks(0);
        // Page 1 has 900 with sale 1; page 0 has 800 there too, but is left with sale 0 and 700.
        z.page(0, 5, 0, 10);
        z.page(0, 6, 0, 10);
        z.sale(0, 8, 0, 10);
        z.sale(0, 7, 0, 10);
        Due.is("4 two and two", z.run(), 2);
        Due.is("4 page 0 has what is left", z.pair(0), 0);
        Due.is("4 page 1 has the most", z.pair(1), 1);
    }

    // "PAGES and SALES, 30 each"
    private static void promise4FullBooks() {
        BookChecks alike = new BookChecks(0);
        BookChecks crossed = new BookChecks(0);
        for (int i = 0; i < 30; i++) {
            alike.page(3, 9, 4, 777);
            alike.sale(3, 9, 4, 777);
            crossed.page(3, i * 10, 4, 777);
            crossed.sale(3, (29 - i) * 10, 4, 777);
        }
        Due.is("4 30 alike", alike.run(), 30);
        Due.is("4 30 crossed", crossed.run(), 30);
        for (int i = 0; i < 30; i++) {
            Due.is("4 alike by numbers", alike.pair(i), i);
            Due.is("4 crossed by days", crossed.pair(i), 29 - i);
        }
        BookChecks none = new BookChecks(0);
        for (int i = 0; i < 30; i++) {
            none.page(3, 9, 4, 777);
            none.sale(3, 9, 5, 777);
        }
        Due.is("4 30 that do not fit", none.run(), 0);
    }

    // "What comes later is not joined until the next run(); what is joined stays so."
    private static void promise4LaterIsNotJoined() {
        BookChecks x = two(5, 10, 6, 20);
        Due.is("4 before any run", x.pair(0), NONE);
        Due.is("4 first run", x.run(), 1);
        x.sale(1, 5, 2, 10);
        x.page(1, 6, 2, 20);
        Due.is("4 the later page", x.pair(1), NONE);
        Due.is("4 has no points", x.points(1), 0);
        Due.is("4 does not differ", x.differs(1), 0);
        Due.is("4 waits", x.waits(6, 0), 1);
        Due.is("4 what is joined stays so", x.pair(0), 0);
        Due.is("4 its points", x.points(0), 450);
        Due.is("4 its difference", x.differs(0), 10);
        Due.is("4 the next run", x.run(), 2);
        Due.is("4 page 0 then", x.pair(0), 1);
        Due.is("4 page 1 then", x.pair(1), 0);
    }

    // "What is refused changes nothing."
    private static void promise4RefusedIsNotJoined() {
        BookChecks x = two(5, 10, 6, 20);
        x.sale(1, 5, 2, 0);
        x.sale(1, -1, 2, 10);
        x.page(1, 5, 2, BILLION + 1);
        Due.is("4 refused ones are not joined", x.run(), 1);
        Due.is("4 the told one is", x.pair(0), 0);
        x.page(10, 6, 2, 20);
        x.sale(1, 5, 10, 10);
        Due.is("4 refused ones part nothing", x.pair(0), 0);
        Due.is("4 nor later", x.run(), 1);
    }

    // "All pages and sales are joined anew"
    private static void promise4JoinedAnew() {
        BookChecks x = two(5, 10, 6, 10);
        Due.is("4 alone", x.run(), 1);
        x.page(1, 6, 2, 10);
        Due.is("4 a better page came", x.run(), 1);
        Due.is("4 page 0 has none any more", x.pair(0), NONE);
        Due.is("4 nor points", x.points(0), 0);
        Due.is("4 page 1 has the sale", x.pair(1), 0);
        x.sale(1, 10, 2, 10);
        Due.is("4 and gets one again", x.run(), 2);
        Due.is("4 the later sale", x.pair(0), 1);
    }

    // "NONE when with none, or there is none such"
    private static void promise5NoneSuch() {
        BookChecks x = two(5, 10, 6, 10);
        x.page(1, 50, 2, 10);
        x.run();
        for (int page : new int[] {LEAST, -2, -1, 2, 29, 30, 31, GREATEST}) {
            Due.is("5 page " + page, x.pair(page), NONE);
        }
        Due.is("5 joined", x.pair(0), 0);
        Due.is("5 with none", x.pair(1), NONE);
    }

    private static void promise5FirstAndLast() {
        BookChecks x = new BookChecks(0);
        for (int i = 0; i < 30; i++) {
            x.page(0, i * 10, 0, 10);
            x.sale(1, 0, 0, 10);
        }
        Due.is("5 none fits", x.run(), 0);
        BookChecks y = new BookChecks(0);
        for (int i = 0; i < 30; i++) {
            y.page(0, i * 10, 0, 10);
        }
        for (int i = 0; i < 28; i++) {
            y.sale(1, 0, 0, 10);
        }
        y.sale(0, 290, 0, 10);
        y.sale(0, 0, 0, 10);
        Due.is("5 the first and the last fit", y.run(), 2);
        Due.is("5 the last sale", y.pair(0), 29);
        Due.is("5 page 1", y.pair(1), NONE);
        Due.is("5 page 28", y.pair(28), NONE);
        Due.is("5 page 29", y.pair(29), 28);
        Due.is("5 one past the last", y.pair(30), NONE);
    }

    // "0 when it has none"
    private static void promise6NoSale() {
        BookChecks x = two(5, 10, 6, 10);
        Due.is("6 before a run", x.points(0), 0);
        x.run();
        Due.is("6 behind a run", x.points(0), 900);
        for (int page : new int[] {LEAST, -2, -1, 1, 29, 30, 31, GREATEST}) {
            Due.is("6 page " + page, x.points(page), 0);
        }
        x.page(1, 6, 2, 10);
        Due.is("6 told behind the run", x.points(1), 0);
    }

    // "1000 less 100 for each day between"
    private static void promise6LessForEachDay() {
        for (int later = 0; later <= 5; later++) {
            joinIs("6 " + later + " days", two(99995, 1, 99995 + later, 1), 1000 - 100 * later);
        }
    }

    // "less 900 times the difference of their grams over the greater ones, down"
    private static void promise6Down() {
        long[][] lost = {
            {1000, 1000, 0}, {1000, 999, 0}, {1000, 998, 1}, {900, 899, 1}, {899, 898, 1}, {901, 900, 0},
            {10, 9, 90}, {3, 2, 300}, {7, 6, 128}, {2, 1, 450}, {899, 1, 898}, {900, 1, 899}, {901, 1, 899},
        };
        for (long[] of : lost) {
            String what = "6 " + of[0] + " and " + of[1];
            joinIs(what + ", page greater", two(5, of[0], 5, of[1]), (int) (1000 - of[2]));
            joinIs(what + ", sale greater", two(5, of[1], 5, of[0]), (int) (1000 - of[2]));
        }
    }

    private static void promise6GreatestGrams() {
        // 900 times such a difference is beyond an int.
        joinIs("6 half of the most", two(5, BILLION, 5, BILLION / 2), 550);
        joinIs("6 a gram less than the most", two(5, BILLION, 5, BILLION - 1), 1000);
        joinIs("6 just below one point", two(5, 900000000L, 5, 899000001L), 1000);
        joinIs("6 just one point", two(5, 900000000L, 5, 899000000L), 999);
        joinIs("6 the most and the least", two(5, BILLION, 5, 1), 101);
    }

    // "0 when it has none"
    private static void promise7NoSale() {
        BookChecks x = two(5, 10, 6, 13);
        Due.is("7 before a run", x.differs(0), 0);
        x.run();
        Due.is("7 behind a run", x.differs(0), 3);
        for (int page : new int[] {LEAST, -2, -1, 1, 29, 30, 31, GREATEST}) {
            Due.is("7 page " + page, x.differs(page), 0);
        }
        x.page(1, 50, 2, 10);
        x.run();
        Due.is("7 joined with none", x.differs(1), 0);
    }

    private static void promise7MostAndLeast() {
        BookChecks more = two(5, 1, 5, BILLION);
        more.run();
        Due.is("7 the most", more.differs(0), 999999999L);
        BookChecks less = two(5, BILLION, 5, 1);
        less.run();
        Due.is("7 the least", less.differs(0), -999999999L);
        BookChecks same = two(5, BILLION, 5, BILLION);
        same.run();
        Due.is("7 nothing", same.differs(0), 0);
        BookChecks one = two(5, 10, 5, 9);
        one.run();
        Due.is("7 one less", one.differs(0), -1);
    }

    // "whose day is that one, or one of the five before"
    private static void promise8FiveDaysBefore() {
        BookChecks x = new BookChecks(0);
        x.page(0, 50, 0, 10);
        for (int day = 43; day <= 58; day++) {
            Due.is("8 day " + day, x.waits(day, 0), day >= 50 && day <= 55 ? 0 : NONE);
        }
    }

    private static void promise8FirstAndLastDays() {
        BookChecks x = new BookChecks(0);
        x.page(0, 100000, 0, 10);
        x.page(0, 0, 0, 10);
        int[][] due = {
            {-6, NONE}, {-5, NONE}, {-1, NONE}, {0, 1}, {1, 1}, {5, 1}, {6, NONE}, {99999, NONE}, {100000, 0},
        };
        for (int[] of : due) {
            Due.is("8 day " + of[0], x.waits(of[0], 0), of[1]);
            Due.is("8 day " + of[0] + ", the second", x.waits(of[0], 1), NONE);
        }
    }

    // "NONE when there is none": days that are far off do not wrap round
    private static void promise8FarDays() {
        BookChecks x = new BookChecks(0);
        x.page(0, 0, 0, 10);
        x.page(0, 100000, 0, 10);
        x.page(0, 3, 0, 10);
        int[] far = {LEAST, LEAST + 1, LEAST + 5, LEAST + 100000, LEAST + 100005, -100000, 200000, GREATEST - 5, GREATEST};
        for (int day : far) {
            Due.is("8 day " + day, x.waits(day, 0), NONE);
        }
    }

    // "The k-th page, by numbers": from 0 on
    private static void promise8Places() {
        BookChecks x = new BookChecks(0);
        x.page(0, 9, 0, 10);
        x.page(0, 7, 0, 10);
        x.page(0, 1, 0, 10);
        x.page(0, 8, 0, 10);
        Due.is("8 first", x.waits(9, 0), 0);
        Due.is("8 second", x.waits(9, 1), 1);
        Due.is("8 third", x.waits(9, 2), 3);
        for (int k : new int[] {LEAST, -2, -1, 3, 4, 30, GREATEST}) {
            Due.is("8 place " + k, x.waits(9, k), NONE);
        }
    }

    // "that is not joined"
    private static void promise8NotJoined() {
        BookChecks x = two(5, 10, 6, 10);
        Due.is("8 before a run all wait", x.waits(5, 0), 0);
        x.run();
        Due.is("8 joined", x.waits(5, 0), NONE);
        x.page(1, 6, 2, 10);
        Due.is("8 told behind the run", x.waits(6, 0), 1);
        x.run();
        Due.is("8 parted by the next run", x.waits(6, 0), 0);
        Due.is("8 joined by it", x.waits(6, 1), NONE);
    }

    private static void promise8FullBook() {
        BookChecks x = new BookChecks(0);
        for (int i = 0; i < 30; i++) {
            x.page(0, 5 + i % 6, 0, 10);
        }
        for (int k = 0; k < 30; k++) {
            Due.is("8 all 30", x.waits(10, k), k);
        }
        Due.is("8 one past the last", x.waits(10, 30), NONE);
        Due.is("8 day 11 leaves day 5 out", x.waits(11, 0), 1);
        Due.is("8 25 are left", x.waits(11, 24), 29);
        Due.is("8 and no more", x.waits(11, 25), NONE);
        Due.is("8 only the last kind of day", x.waits(15, 0), 5);
        Due.is("8 the last of them", x.waits(15, 4), 29);
        Due.is("8 and not a sixth", x.waits(15, 5), NONE);
        Due.is("8 beyond", x.waits(16, 0), NONE);
    }
}
