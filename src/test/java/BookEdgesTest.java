/** Promises 1 to 3 and 9, 10: for each sentence that names a boundary case of books, a test of its own. */
public final class BookEdgesTest {
    private static final int NONE = BookChecks.NONE;
    private static final int LEAST = Integer.MIN_VALUE;
    private static final int GREATEST = Integer.MAX_VALUE;
    private static final long BILLION = 1000000000L;

    /** page or sale: the document says the same of both. */
    private interface Telling {
        int tell(BookChecks x, int ship, int day, int kind, long grams);
    }

    public static void main(String[] args) {
        for (long seed : new long[] {0L, 1L, -1L, Long.MIN_VALUE, Long.MAX_VALUE}) {
            promise1NothingIsTold(seed);
            promise1FirstNumbers(seed);
        }
        edgesOf("2 page", BookChecks::page);
        edgesOf("3 sale", BookChecks::sale);
        promise2And3AreCountedApart();
        promise9NoneSuch();
        promise9FullBook();
        promise9LeastAndGreatestGrams();
        promise10NoneSuch();
        promise10LeastAndGreatestKind();
        promise10BeyondAnInt();
        promise10RefusedIsNotCounted();
        promise10WithoutARun();
        Due.end();
    }

    private static void edgesOf(String name, Telling book) {
        shipsFrom0To9(name, book);
        kindsFrom0To9(name, book);
        daysFrom0To100000(name, book);
        gramsFrom1ToABillion(name, book);
        numberedFrom0On(name, book);
        thirtyAndNoMore(name, book);
        severalNumbersAtTheirEdges(name, book);
    }

    // "Nothing is told."
    private static void promise1NothingIsTold(long seed) {
        BookChecks x = new BookChecks(seed);
        for (int i = 0; i < 30; i++) {
            Due.is("1 pair", x.pair(i), NONE);
            Due.is("1 points", x.points(i), 0);
            Due.is("1 differs", x.differs(i), 0);
            Due.is("1 pageAt", Make.thrown(x, i), 1);
            Due.is("1 drawn", x.drawn(i), NONE);
        }
        for (int i = 0; i < 10; i++) {
            Due.is("1 balance", x.balance(i), 0);
            Due.is("1 lacks", x.lacks(i), NONE);
            Due.is("1 nowhere", x.nowhere(i, 0), NONE);
            Due.is("1 out", x.out(i, 0, 1), NONE);
            Due.is("1 camera", x.camera(i, GREATEST), 0);
            Due.is("1 state", x.state(i), 0);
            Due.is("1 repeated", x.repeated(i), 0);
        }
        Due.is("1 waits", x.waits(0, 0), NONE);
        Due.is("1 run", x.run(), 0);
        Due.is("1 draw 1", x.draw(1), NONE);
        Due.is("1 same as its own seed", x.same(seed), true);
        Due.is("1 same as another seed", x.same(seed + 1), true);
        Due.is("1 missed", x.missed(0, 0, 0), 1);
        Due.is("1 missed of none", x.missed(1, 0, 0), NONE);
        Due.is("1 draw 0", x.draw(0), 0);
    }

    private static void promise1FirstNumbers(long seed) {
        BookChecks x = new BookChecks(seed);
        Due.is("1 first page", x.page(9, 0, 9, 1), 0);
        Due.is("1 first sale", x.sale(9, 0, 9, 1), 0);
        Due.is("1 first plant", x.plant(0, 9), 0);
        Due.is("1 first out", x.out(0, 9, 1), 0);
        Due.is("1 another object has none of it", Make.thrown(new BookChecks(seed), 0), 1);
    }

    // "SHIPS .. are 0 .. 9", "NONE when a number is none such"
    private static void shipsFrom0To9(String name, Telling book) {
        BookChecks x = new BookChecks(0);
        for (int ship : new int[] {LEAST, -10, -1, 10, 11, 100, GREATEST}) {
            Due.is(name + " of ship " + ship, book.tell(x, ship, 1, 1, 1), NONE);
        }
        for (int ship = 0; ship < 10; ship++) {
            Due.is(name + " of ship " + ship, book.tell(x, ship, 1, 1, 1), ship);
        }
    }

    // "KINDS of fish are 0 .. 9"
    private static void kindsFrom0To9(String name, Telling book) {
        BookChecks x = new BookChecks(0);
        for (int kind : new int[] {LEAST, -10, -1, 10, 11, 100, GREATEST}) {
            Due.is(name + " of kind " + kind, book.tell(x, 1, 1, kind, 1), NONE);
        }
        for (int kind = 0; kind < 10; kind++) {
            Due.is(name + " of kind " + kind, book.tell(x, 1, 1, kind, 1), kind);
        }
    }

    // "a day (0 .. 100000)"
    private static void daysFrom0To100000(String name, Telling book) {
        BookChecks x = new BookChecks(0);
        for (int day : new int[] {LEAST, -100000, -1, 100001, 1000000, GREATEST}) {
            Due.is(name + " of day " + day, book.tell(x, 1, day, 1, 1), NONE);
        }
        Due.is(name + " of day 0", book.tell(x, 1, 0, 1, 1), 0);
        Due.is(name + " of day 1", book.tell(x, 1, 1, 1, 1), 1);
        Due.is(name + " of day 99999", book.tell(x, 1, 99999, 1, 1), 2);
        Due.is(name + " of day 100000", book.tell(x, 1, 100000, 1, 1), 3);
    }

    // "grams (1 .. 1000000000)": two of the wrong ones would be 1 if only their lower 32 bits were looked at
    private static void gramsFrom1ToABillion(String name, Telling book) {
        BookChecks x = new BookChecks(0);
        long[] wrong = {
            Long.MIN_VALUE, Long.MIN_VALUE + 1, -BILLION, -1, 0, BILLION + 1, GREATEST, (1L << 32) + 1,
            Long.MAX_VALUE - (1L << 32) + 2, Long.MAX_VALUE
        };
        for (long grams : wrong) {
            Due.is(name + " of grams " + grams, book.tell(x, 1, 1, 1, grams), NONE);
        }
        Due.is(name + " of 1 gram", book.tell(x, 1, 1, 1, 1), 0);
        Due.is(name + " of 2 grams", book.tell(x, 1, 1, 1, 2), 1);
        Due.is(name + " of one less than the most", book.tell(x, 1, 1, 1, BILLION - 1), 2);
        Due.is(name + " of the most grams", book.tell(x, 1, 1, 1, BILLION), 3);
    }

    // "numbered from 0 on": what is refused takes no number, and what is alike gets one of its own.
    private static void numberedFrom0On(String name, Telling book) {
        BookChecks x = new BookChecks(0);
        for (int i = 0; i < 30; i++) {
            Due.is(name + " refused between", book.tell(x, 10, 1, 1, 1), NONE);
            Due.is(name + " alike", book.tell(x, 1, 1, 1, 1), i);
            Due.is(name + " refused behind", book.tell(x, 1, 1, 1, 0), NONE);
        }
    }

    // "30 each", "NONE when .. there are 30"
    private static void thirtyAndNoMore(String name, Telling book) {
        BookChecks x = new BookChecks(0);
        for (int i = 0; i < 30; i++) {
            Due.is(name + " until there are 30", book.tell(x, i % 10, i, i % 10, i + 1), i);
        }
        long[] balances = new long[10];
        for (int kind = 0; kind < 10; kind++) {
            balances[kind] = x.balance(kind);
        }
        Due.is(name + " the 31st", book.tell(x, 0, 0, 0, 1), NONE);
        Due.is(name + " the 32nd", book.tell(x, 9, 100000, 9, BILLION), NONE);
        Due.is(name + " a wrong one when there are 30", book.tell(x, -1, 0, 0, 1), NONE);
        for (int kind = 0; kind < 10; kind++) {
            Due.is(name + " the 31st changed nothing", x.balance(kind), balances[kind]);
        }
    }

    private static void severalNumbersAtTheirEdges(String name, Telling book) {
        BookChecks x = new BookChecks(0);
        Due.is(name + " all just too small", book.tell(x, -1, -1, -1, 0), NONE);
        Due.is(name + " all just too great", book.tell(x, 10, 100001, 10, BILLION + 1), NONE);
        Due.is(name + " all least", book.tell(x, LEAST, LEAST, LEAST, Long.MIN_VALUE), NONE);
        Due.is(name + " all greatest", book.tell(x, GREATEST, GREATEST, GREATEST, Long.MAX_VALUE), NONE);
        Due.is(name + " all the least that are taken", book.tell(x, 0, 0, 0, 1), 0);
        Due.is(name + " all the greatest that are taken", book.tell(x, 9, 100000, 9, BILLION), 1);
    }

    // "PAGES and SALES, 30 each"
    private static void promise2And3AreCountedApart() {
        BookChecks x = new BookChecks(0);
        for (int i = 0; i < 30; i++) {
            Due.is("2 page", x.page(0, 0, 0, 1), i);
        }
        Due.is("2 the 31st page", x.page(0, 0, 0, 1), NONE);
        for (int i = 0; i < 30; i++) {
            Due.is("3 sale though pages are full", x.sale(0, 0, 0, 1), i);
        }
        Due.is("3 the 31st sale", x.sale(0, 0, 0, 1), NONE);
        BookChecks y = new BookChecks(0);
        for (int i = 0; i < 31; i++) {
            y.sale(0, 0, 0, 1);
        }
        Due.is("2 page though sales are full", y.page(0, 0, 0, 1), 0);
    }

    // "IndexOutOfBoundsException: there is none such."
    private static void promise9NoneSuch() {
        BookChecks x = new BookChecks(0);
        Due.is("9 nothing told", Make.thrown(x, 0), 1);
        x.sale(0, 0, 0, 5);
        Due.is("9 a sale is no page", Make.thrown(x, 0), 1);
        x.page(0, 0, 0, 0);
        Due.is("9 a refused page is none", Make.thrown(x, 0), 1);
        x.page(0, 0, 0, 7);
        Due.is("9 the first", x.pageAt(0), 7);
        for (int page : new int[] {LEAST, -2, -1, 1, 2, 29, 30, 31, GREATEST}) {
            Due.is("9 page " + page, Make.thrown(x, page), 1);
        }
        Due.is("9 the throw changed nothing", x.pageAt(0), 7);
        Due.is("9 nor the next number", x.page(0, 0, 0, 8), 1);
        Due.is("9 the second now", x.pageAt(1), 8);
    }

    private static void promise9FullBook() {
        BookChecks x = new BookChecks(0);
        for (int i = 0; i < 31; i++) {
            x.page(0, 0, 0, 100 + i);
        }
        for (int i = 0; i < 30; i++) {
            Due.is("9 page " + i, x.pageAt(i), 100 + i);
        }
        Due.is("9 one past the last", Make.thrown(x, 30), 1);
        Due.is("9 before the first", Make.thrown(x, -1), 1);
    }

    private static void promise9LeastAndGreatestGrams() {
        BookChecks x = new BookChecks(0);
        x.page(0, 0, 0, 1);
        x.page(0, 0, 0, BILLION);
        Due.is("9 least grams", x.pageAt(0), 1);
        Due.is("9 most grams", x.pageAt(1), BILLION);
    }

    // "0 when there is none such"
    private static void promise10NoneSuch() {
        BookChecks x = new BookChecks(0);
        for (int kind = 0; kind < 10; kind++) {
            x.sale(0, 0, kind, 50 + kind);
        }
        for (int kind : new int[] {LEAST, -10, -1, 10, 11, GREATEST}) {
            Due.is("10 kind " + kind, x.balance(kind), 0);
        }
    }

    private static void promise10LeastAndGreatestKind() {
        BookChecks x = new BookChecks(0);
        x.sale(0, 0, 0, 50);
        x.page(0, 0, 9, 60);
        Due.is("10 kind 0", x.balance(0), 50);
        Due.is("10 kind 9", x.balance(9), -60);
        Due.is("10 a kind of which nothing is told", x.balance(1), 0);
        x.page(1, 3, 0, 50);
        Due.is("10 as much", x.balance(0), 0);
        x.page(2, 100000, 0, 1);
        Due.is("10 one gram less", x.balance(0), -1);
        x.sale(3, 0, 0, 2);
        Due.is("10 one gram more", x.balance(0), 1);
    }

    private static void promise10BeyondAnInt() {
        BookChecks sold = new BookChecks(0);
        BookChecks logged = new BookChecks(0);
        for (int i = 0; i < 30; i++) {
            sold.sale(0, 0, 5, BILLION);
            logged.page(0, 0, 5, BILLION);
        }
        Due.is("10 30 greatest sales", sold.balance(5), 30 * BILLION);
        Due.is("10 30 greatest pages", logged.balance(5), -30 * BILLION);
        for (int i = 0; i < 30; i++) {
            sold.page(0, 0, 5, 1);
        }
        Due.is("10 less 30 least pages", sold.balance(5), 30 * BILLION - 30);
    }

    // "What is refused changes nothing."
    private static void promise10RefusedIsNotCounted() {
        BookChecks x = new BookChecks(0);
        x.sale(10, 0, 2, 50);
        x.sale(0, 100001, 2, 50);
        x.sale(0, 0, 2, BILLION + 1);
        x.page(-1, 0, 2, 50);
        x.page(0, -1, 2, 50);
        Due.is("10 refused ones", x.balance(2), 0);
    }

    private static void promise10WithoutARun() {
        BookChecks x = new BookChecks(0);
        x.page(0, 0, 2, 50);
        x.sale(0, 0, 2, 70);
        Due.is("10 before a run", x.balance(2), 20);
        x.run();
        Due.is("10 behind a run", x.balance(2), 20);
    }
}
