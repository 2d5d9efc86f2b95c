/** Promises 20 to 23: for each sentence that names a boundary case of cameras and acts, a test of its own. */
public final class ActEdgesTest {
    private static final int NONE = BookChecks.NONE;
    private static final int LEAST = Integer.MIN_VALUE;
    private static final int GREATEST = Integer.MAX_VALUE;
    private static final long BILLION = 1000000000L;
    private static final int WRONG = 0;
    private static final int PAID = 1;
    private static final int HEARD = 2;
    private static final int CLEARED = 3;

    public static void main(String[] args) {
        promise20NoSuchShip();
        promise20GramsBegun();
        promise20FewAndManyMinutes();
        promise20AtMost();
        promise20FullBook();
        promise20RefusedIsNotWatched();
        promise21NoSuchShip();
        promise21NoSuchEvent();
        promise21NoSuchPerson();
        promise21EventsOfStates();
        promise21NotTwoTimes();
        promise21RefusedIsNotTheLatest();
        promise21EachShipByItself();
        promise22NoSuchShip();
        promise22FromFirstToLast();
        promise22RefusedChangesNothing();
        promise23NoSuchShip();
        promise23WrongAlone();
        promise23RefusedChangesNothing();
        the512thCall();
        Due.end();
    }

    /** The object with pages of ship 4 of these grams. */
    private static BookChecks watched(long... grams) {
        BookChecks x = new BookChecks(0);
        for (long g : grams) {
            x.page(4, 0, 0, g);
        }
        return x;
    }

    // "0 when there is none such"
    private static void promise20NoSuchShip() {
        BookChecks x = new BookChecks(0);
        Due.is("20 nothing told", x.camera(0, GREATEST), 0);
        for (int ship = 0; ship < 10; ship++) {
            x.page(ship, 0, 0, 1);
        }
        for (int ship : new int[] {LEAST, -10, -1, 10, 11, GREATEST}) {
            Due.is("20 ship " + ship, x.camera(ship, GREATEST), 0);
        }
        for (int ship = 0; ship < 10; ship++) {
            Due.is("20 ship " + ship, x.camera(ship, 21), 1);
            Due.is("20 ship " + ship + ", a minute less", x.camera(ship, 20), 0);
        }
    }

    // "each taking 20, and one for each 100000 grams that are begun"
    private static void promise20GramsBegun() {
        long[][] takes = {
            {1, 21}, {2, 21}, {99999, 21}, {100000, 21}, {100001, 22}, {199999, 22}, {200000, 22}, {200001, 23},
            {BILLION - 100000, 10019}, {BILLION - 99999, 10020}, {BILLION - 1, 10020}, {BILLION, 10020},
        };
        for (long[] of : takes) {
            BookChecks x = watched(of[0]);
            Due.is("20 " + of[0] + " grams, a minute less", x.camera(4, (int) of[1] - 1), 0);
            Due.is("20 " + of[0] + " grams", x.camera(4, (int) of[1]), 1);
            Due.is("20 " + of[0] + " grams, a minute more", x.camera(4, (int) of[1] + 1), 1);
        }
    }

    private static void promise20FewAndManyMinutes() {
        BookChecks x = watched(1, 1, BILLION);
        int[][] due = {
            {LEAST, 0}, {-10020, 0}, {-21, 0}, {-1, 0}, {0, 0}, {1, 0}, {20, 0}, {21, 1}, {22, 1}, {41, 1}, {42, 2},
            {43, 2}, {10061, 2}, {10062, 3}, {10063, 3}, {GREATEST, 3},
        };
        for (int[] of : due) {
            Due.is("20 " + of[0] + " minutes", x.camera(4, of[0]), of[1]);
        }
    }

    // "can be watched at most": the shortest ones, in whatever order they were told
    private static void promise20AtMost() {
        long[][] orders = {{1, 100001, 200001}, {200001, 100001, 1}, {100001, 200001, 1}, {200001, 1, 100001}};
        for (long[] order : orders) {
            BookChecks x = watched(order);
            Due.is("20 the shortest", x.camera(4, 21), 1);
            Due.is("20 the next", x.camera(4, 42), 1);
            Due.is("20 the two shortest", x.camera(4, 43), 2);
            Due.is("20 a minute less than all", x.camera(4, 65), 2);
            Due.is("20 all", x.camera(4, 66), 3);
        }
        Due.is("20 none is begun that cannot be ended", watched(BILLION).camera(4, 10019), 0);
        Due.is("20 another ship's page takes nothing", otherShipFirst(), 1);
    }

    private static int otherShipFirst() {
        BookChecks x = new BookChecks(0);
        x.page(3, 0, 0, 1);
        x.page(4, 0, 0, 1);
        x.page(5, 0, 0, 1);
        return x.camera(4, 1000);
    }

    private static void promise20FullBook() {
        BookChecks long30 = new BookChecks(0);
        BookChecks short30 = new BookChecks(0);
        for (int i = 0; i < 31; i++) {
            long30.page(9, 0, 0, BILLION);
            short30.page(0, 0, 0, 1);
        }
        Due.is("20 30 of the longest", long30.camera(9, 300600), 30);
        Due.is("20 a minute less", long30.camera(9, 300599), 29);
        Due.is("20 no 31st", long30.camera(9, GREATEST), 30);
        Due.is("20 30 of the shortest", short30.camera(0, 630), 30);
        Due.is("20 a minute less of these", short30.camera(0, 629), 29);
        Due.is("20 asked again", short30.camera(0, 630), 30);
    }

    // "What is refused changes nothing."
    private static void promise20RefusedIsNotWatched() {
        BookChecks x = new BookChecks(0);
        x.page(4, 100001, 0, 1);
        x.page(4, 0, 10, 1);
        x.page(4, 0, 0, 0);
        x.sale(4, 0, 0, 1);
        Due.is("20 refused pages, and sales", x.camera(4, GREATEST), 0);
    }

    // "NONE when a number is none such": the ship
    private static void promise21NoSuchShip() {
        BookChecks x = new BookChecks(0);
        for (int ship : new int[] {LEAST, -10, -1, 10, 11, GREATEST}) {
            Due.is("21 ship " + ship, x.act(ship, WRONG, 5), NONE);
        }
        for (int ship = 0; ship < 10; ship++) {
            Due.is("21 ship " + ship, x.act(ship, WRONG, 5), 1);
        }
    }

    // "EVENTS: 0 wrong .. 1 paid .. 2 heard .. 3 cleared"
    private static void promise21NoSuchEvent() {
        for (int told = 0; told <= 3; told++) {
            BookChecks x = inState(told);
            for (int event : new int[] {LEAST, -2, -1, 4, 5, GREATEST}) {
                Due.is("21 event " + event + " in " + told, x.act(2, event, 50), NONE);
                Due.is("21 stays " + told, x.state(2), told);
            }
        }
    }

    /** Ship 2 in a state, its latest act told by person 9. */
    private static BookChecks inState(int state) {
        BookChecks x = new BookChecks(0);
        for (int i = state - 1; i >= 0; i--) {
            x.act(2, WRONG, 9 + i);
        }
        return x;
    }

    // "A person (0 .. 99)"
    private static void promise21NoSuchPerson() {
        BookChecks x = new BookChecks(0);
        for (int person : new int[] {LEAST, -100, -2, -1, 100, 101, GREATEST}) {
            Due.is("21 person " + person, x.act(0, WRONG, person), NONE);
        }
        Due.is("21 nothing is told of it", x.state(0), 0);
        Due.is("21 person 0", x.act(0, WRONG, 0), 1);
        Due.is("21 person 99", x.act(0, WRONG, 99), 2);
        for (int person : new int[] {LEAST, -1, 100, GREATEST}) {
            Due.is("21 person " + person + " later", x.act(0, WRONG, person), NONE);
        }
        Due.is("21 person 1", x.act(0, WRONG, 1), 3);
        Due.is("21 person 98", x.act(0, HEARD, 98), 2);
    }

    // "0 wrong: one more, from 0 .. 2. 1 paid: from 2 to 1. 2 heard: from 3 to 2. 3 cleared: from 1 to 0."
    private static void promise21EventsOfStates() {
        int[][] due = {
            {1, NONE, NONE, NONE}, {2, NONE, NONE, 0}, {3, 1, NONE, NONE}, {NONE, NONE, 2, NONE},
        };
        for (int told = 0; told <= 3; told++) {
            for (int event = WRONG; event <= CLEARED; event++) {
                BookChecks x = inState(told);
                int want = due[told][event];
                String what = "21 event " + event + " in " + told;
                Due.is(what, x.act(2, event, 50), want);
                Due.is(what + ": state", x.state(2), want == NONE ? told : want);
                Due.is(what + ": repeated", x.repeated(2), told + (event == WRONG && told < 3 ? 1 : 0));
            }
        }
    }

    // "Nobody acts on one ship two times, one behind the other."
    private static void promise21NotTwoTimes() {
        for (int person : new int[] {0, 1, 50, 98, 99}) {
            BookChecks x = new BookChecks(0);
            int other = (person + 1) % 100;
            Due.is("21 the first act of " + person, x.act(6, WRONG, person), 1);
            Due.is("21 the same event", x.act(6, WRONG, person), NONE);
            Due.is("21 another event", x.act(6, CLEARED, person), NONE);
            Due.is("21 another person", x.act(6, WRONG, other), 2);
            Due.is("21 that one again", x.act(6, PAID, other), NONE);
            Due.is("21 the first again", x.act(6, PAID, person), 1);
            Due.is("21 and not two times", x.act(6, CLEARED, person), NONE);
        }
    }

    // "the same person told the latest one of that ship": refused acts are not told
    private static void promise21RefusedIsNotTheLatest() {
        BookChecks x = new BookChecks(0);
        Due.is("21 not told of state 0", x.act(1, PAID, 7), NONE);
        Due.is("21 so that person may act", x.act(1, WRONG, 7), 1);
        Due.is("21 no such event", x.act(1, 4, 8), NONE);
        Due.is("21 the latest is 7 still", x.act(1, WRONG, 7), NONE);
        Due.is("21 not told of state 1", x.act(1, HEARD, 8), NONE);
        Due.is("21 8 may act", x.act(1, WRONG, 8), 2);
        Due.is("21 refused as the same", x.act(1, WRONG, 8), NONE);
        Due.is("21 no such person", x.act(1, WRONG, 100), NONE);
        Due.is("21 the latest is 8 still", x.act(1, PAID, 8), NONE);
        Due.is("21 7 may act", x.act(1, WRONG, 7), 3);
        Due.is("21 no more than held", x.act(1, WRONG, 8), NONE);
        Due.is("21 8 may act once more", x.act(1, HEARD, 8), 2);
    }

    private static void promise21EachShipByItself() {
        BookChecks x = new BookChecks(0);
        for (int ship = 0; ship < 10; ship++) {
            Due.is("21 one person, each ship", x.act(ship, WRONG, 3), 1);
        }
        for (int ship = 0; ship < 10; ship++) {
            Due.is("21 not again", x.act(ship, WRONG, 3), NONE);
        }
        Due.is("21 another acts on ship 9", x.act(9, WRONG, 4), 2);
        Due.is("21 which frees no other ship", x.act(0, WRONG, 3), NONE);
        Due.is("21 but ship 9", x.act(9, PAID, 3), 1);
        Due.is("21 a wrong ship between", x.act(10, WRONG, 4), NONE);
        Due.is("21 frees none either", x.act(9, WRONG, 3), NONE);
    }

    // "NONE when there is none such"
    private static void promise22NoSuchShip() {
        BookChecks x = new BookChecks(0);
        for (int ship : new int[] {LEAST, -10, -1, 10, 11, GREATEST}) {
            Due.is("22 ship " + ship, x.state(ship), NONE);
        }
        for (int ship = 0; ship < 10; ship++) {
            Due.is("22 ship " + ship + " at first", x.state(ship), 0);
        }
        x.act(0, WRONG, 1);
        x.act(9, WRONG, 1);
        x.act(9, WRONG, 2);
        Due.is("22 ship 0", x.state(0), 1);
        Due.is("22 ship 9", x.state(9), 2);
        Due.is("22 ship 1", x.state(1), 0);
        Due.is("22 ship 8", x.state(8), 0);
    }

    // "0 nothing, 1 warned, 2 fined, 3 held; 0 at first"
    private static void promise22FromFirstToLast() {
        BookChecks x = new BookChecks(0);
        int[][] way = {
            {WRONG, 1}, {WRONG, 2}, {WRONG, 3}, {HEARD, 2}, {WRONG, 3}, {HEARD, 2}, {PAID, 1}, {WRONG, 2}, {PAID, 1},
            {CLEARED, 0}, {WRONG, 1}, {CLEARED, 0},
        };
        for (int i = 0; i < way.length; i++) {
            Due.is("22 act " + i, x.act(5, way[i][0], i), way[i][1]);
            Due.is("22 state behind it", x.state(5), way[i][1]);
        }
    }

    private static void promise22RefusedChangesNothing() {
        for (int told = 0; told <= 3; told++) {
            BookChecks x = inState(told);
            x.act(2, WRONG, -1);
            x.act(2, WRONG, 100);
            x.act(2, 4, 50);
            x.act(-1, WRONG, 50);
            x.act(10, WRONG, 50);
            if (told > 0) {
                x.act(2, WRONG, 9);
            }
            Due.is("22 refused ones in " + told, x.state(2), told);
        }
    }

    // "NONE when there is none such"
    private static void promise23NoSuchShip() {
        BookChecks x = new BookChecks(0);
        for (int ship : new int[] {LEAST, -10, -1, 10, 11, GREATEST}) {
            Due.is("23 ship " + ship, x.repeated(ship), NONE);
        }
        for (int ship = 0; ship < 10; ship++) {
            Due.is("23 ship " + ship + " at first", x.repeated(ship), 0);
        }
        x.act(0, WRONG, 1);
        x.act(9, WRONG, 1);
        x.act(9, WRONG, 2);
        Due.is("23 ship 0", x.repeated(0), 1);
        Due.is("23 ship 9", x.repeated(9), 2);
        Due.is("23 ship 1", x.repeated(1), 0);
        Due.is("23 ship 8", x.repeated(8), 0);
    }

    // "How often a ship was told to be wrong": no other event counts, nor takes away
    private static void promise23WrongAlone() {
        BookChecks x = new BookChecks(0);
        int[][] way = {
            {WRONG, 1}, {WRONG, 2}, {PAID, 2}, {CLEARED, 2}, {WRONG, 3}, {WRONG, 4}, {WRONG, 5}, {HEARD, 5}, {PAID, 5},
        };
        for (int i = 0; i < way.length; i++) {
            x.act(5, way[i][0], i);
            Due.is("23 behind act " + i, x.repeated(5), way[i][1]);
        }
    }

    private static void promise23RefusedChangesNothing() {
        for (int told = 0; told <= 3; told++) {
            BookChecks x = inState(told);
            x.act(2, WRONG, -1);
            x.act(2, WRONG, 100);
            x.act(2, -1, 50);
            x.act(10, WRONG, 50);
            if (told > 0) {
                x.act(2, WRONG, 9);
            }
            if (told == 3) {
                Due.is("23 not from held", x.act(2, WRONG, 50), NONE);
            }
            Due.is("23 refused ones in " + told, x.repeated(2), told);
        }
    }

    // "An object is used for at most 512 calls after it has been made"
    private static void the512thCall() {
        BookChecks acts = new BookChecks(0);
        for (int i = 0; i < 510; i++) {
            Due.is("512 act " + i, acts.act(3, i % 2 == 0 ? WRONG : CLEARED, i % 2), i % 2 == 0 ? 1 : 0);
        }
        Due.is("512 the 511th call", acts.state(3), 0);
        Due.is("512 the 512th call", acts.repeated(3), 255);
        BookChecks full = new BookChecks(0);
        for (int i = 0; i < 511; i++) {
            Due.is("512 page " + i, full.page(0, 0, 0, i + 1), i < 30 ? i : NONE);
        }
        Due.is("512 the last page", full.pageAt(29), 30);
        BookChecks runs = new BookChecks(0);
        runs.page(0, 0, 0, 5);
        runs.sale(0, 0, 0, 5);
        for (int i = 2; i < 512; i++) {
            Due.is("512 run " + i, runs.run(), 1);
        }
        BookChecks draws = Make.withPages(0, 0, 0, 0);
        for (int i = 3; i < 510; i++) {
            Due.is("512 draw " + i, draws.draw(i % 4), i % 4);
        }
        draws.draw(2);
        Due.is("512 the last draw", draws.drawn(1), 1);
    }
}
