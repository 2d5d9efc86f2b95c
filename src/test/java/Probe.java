import java.util.ArrayList;
import java.util.List;

/** All that an object answers, and then how it goes on: what two objects in one state have in common. */
final class Probe {
    private final BookChecks x;
    private final List<String> answers = new ArrayList<>();
    private int pages = 0;

    private Probe(BookChecks x) {
        this.x = x;
    }

    /** The answers, each with its call; as many as calls were made. */
    static List<String> of(BookChecks x) {
        Probe probe = new Probe(x);
        probe.askOfBooks();
        probe.askOfTheRest();
        probe.goOnWithActsAndDraws();
        probe.goOnWithBooksAndPlants();
        return probe.answers;
    }

    private void note(String call, Object answer) {
        answers.add(call + " is " + answer);
    }

    private void askOfBooks() {
        for (int i = 0; i <= 30; i++) {
            note("pair " + i, x.pair(i));
            note("points " + i, x.points(i));
            note("differs " + i, x.differs(i));
            note("pageAt " + i, gramsAt(i));
            note("drawn " + i, x.drawn(i));
        }
        for (int day = 0; day <= 12; day += 3) {
            for (int k = 0; k < 4; k++) {
                note("waits " + day + ", " + k, x.waits(day, k));
            }
        }
    }

    private String gramsAt(int page) {
        try {
            long grams = x.pageAt(page);
            pages = page + 1;
            return String.valueOf(grams);
        } catch (IndexOutOfBoundsException e) {
            return "thrown";
        }
    }

    private void askOfTheRest() {
        for (int i = 0; i < 10; i++) {
            note("balance " + i, x.balance(i));
            note("camera " + i, x.camera(i, 70));
            note("state " + i, x.state(i));
            note("repeated " + i, x.repeated(i));
        }
        for (int plant = 0; plant <= 8; plant++) {
            note("lacks " + plant, x.lacks(plant));
            note("nowhere " + plant + ", 0", x.nowhere(plant, 0));
            note("nowhere " + plant + ", 1", x.nowhere(plant, 1));
        }
        for (int seed = 0; seed < 4; seed++) {
            note("same " + seed, x.same(seed));
        }
        note("missed above", x.missed(2, 2, 0));
        note("missed below", x.missed(2, 2, 1));
    }

    /** Shows who told the latest act of each ship, and the risks. */
    private void goOnWithActsAndDraws() {
        for (int ship = 0; ship < 10; ship++) {
            note("wrong by 3 of " + ship, x.act(ship, 0, 3));
            note("cleared by 50 of " + ship, x.act(ship, 3, 50));
        }
        note("draw of all", x.draw(pages));
        for (int k = 0; k < pages; k++) {
            note("drawn then " + k, x.drawn(k));
        }
        note("same then", x.same(1));
    }

    /** Shows how many sales, plants and outs there are, and that the next ones join as they should. */
    private void goOnWithBooksAndPlants() {
        note("a page more", x.page(4, 4, 1, 450));
        note("a sale more", x.sale(4, 5, 1, 440));
        note("a run more", x.run());
        for (int i = 0; i <= 30; i++) {
            note("pair then " + i, x.pair(i));
        }
        note("a plant more", x.plant(3, 1));
        for (int plant = 0; plant < 8; plant++) {
            note("an out more of " + plant, x.out(plant, 1, 77));
            note("lacks then " + plant, x.lacks(plant));
        }
    }
}
