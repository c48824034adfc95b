import java.util.ArrayList;
import java.util.List;
import java.util.function.Consumer;
import java.util.function.Supplier;

/**
 * Two objects that were told the same, one of which got a further call: if that changes nothing,
 * both answer the same to whatever they are asked and told from then on. What an object holds but
 * never answers (the rate of a SHIP, the room of a SITE, when a TEAM worked ..) shows so, too.
 *
 * Each exam has two new objects, for the document promises nothing beyond 512 calls.
 */
final class Twins {
    private interface Question {
        Object ask();
    }

    private interface Exam {
        void of(Slickboom x, Twins answers);
    }

    private static final List<Exam> EXAMS = List.of(Twins::cells, Twins::numbers, Twins::wouldBe, Twins::told,
            Twins::borders, Twins::anHourLater, Twins::halfADayLater, Twins::shifts, Twins::uses, Twins::daysLater);

    private final List<String> answers = new ArrayList<>();

    private Twins() {
    }

    /** A further call changes nothing. */
    static void same(String what, Supplier<Slickboom> told, Consumer<Slickboom> further) {
        alike(what, told, () -> {
            Slickboom x = told.get();
            further.accept(x);
            return x;
        });
    }

    /** Both were told the same, if in other words. */
    static void alike(String what, Supplier<Slickboom> one, Supplier<Slickboom> other) {
        for (int i = 0; i < EXAMS.size(); i++) {
            List<String> due = answersOf(one, EXAMS.get(i));
            List<String> got = answersOf(other, EXAMS.get(i));
            int same = 0;
            while (same < due.size() - 1 && got.get(same).equals(due.get(same))) {
                same++;
            }
            Check.is(what + ", exam " + i + ", question " + same, got.get(same), due.get(same));
        }
    }

    private static List<String> answersOf(Supplier<Slickboom> told, Exam exam) {
        Twins a = new Twins();
        exam.of(told.get(), a);
        return a.answers;
    }

    private void ask(Question question) {
        try {
            answers.add(String.valueOf(question.ask()));
        } catch (RuntimeException e) {
            answers.add(e.getClass().getName());
        }
    }

    private static void cells(Slickboom x, Twins a) {
        for (int i = 0; i < 24 * 9; i++) {
            int cell = i / 9;
            int what = i % 9;
            a.ask(() -> x.at(cell, what));
        }
        sums(x, a);
    }

    private static void sums(Slickboom x, Twins a) {
        for (int i = 0; i <= 11; i++) {
            int what = i;
            a.ask(() -> x.sum(what));
        }
        for (int i = 0; i <= 4; i++) {
            int ship = i;
            a.ask(() -> x.shipHas(ship));
        }
        a.ask(() -> x.waste(Slickboom.LIQUID));
        a.ask(() -> x.waste(Slickboom.SOLID));
    }

    private static void numbers(Slickboom x, Twins a) {
        for (int i = 0; i < 21 * 4; i++) {
            int mean = i / 4;
            int what = i % 4;
            a.ask(() -> x.meanIs(mean, what));
        }
        dues(x, a);
        for (int i = 0; i < 24 * 6; i++) {
            int cell = i / 6;
            int use = i % 2;
            int what = i % 6 / 2;
            a.ask(() -> x.why(cell, use, what));
        }
    }

    private static void dues(Slickboom x, Twins a) {
        for (int i = 0; i < 21 * 2; i++) {
            int claim = i / 2;
            int what = i % 2;
            a.ask(() -> x.due(claim, what));
        }
    }

    private static void wouldBe(Slickboom x, Twins a) {
        for (int i = 0; i < 24; i++) {
            int cell = i;
            a.ask(() -> x.nextAnew(cell));
            a.ask(() -> x.ahead(cell, 1));
            a.ask(() -> x.ahead(cell, 8));
        }
        a.ask(() -> x.ahead(9, 48));
    }

    private static void told(Slickboom x, Twins a) {
        a.ask(() -> x.wind(Slickboom.SOUTH, 4));
        a.ask(() -> x.layers(1000, 70));
        a.ask(() -> x.claim(200));
        dues(x, a);
        for (int i = 0; i < 4; i++) {
            int number = i;
            a.ask(() -> x.hole(number, 50));
            a.ask(() -> x.deliver(number, Slickboom.LIQUID, 1));
            a.ask(() -> x.deliver(number, Slickboom.SOLID, 1));
        }
        a.ask(() -> x.site(7, 8));
        a.ask(() -> x.ship(0, 4000));
        a.ask(() -> x.ship(23, 4000));
        a.ask(() -> x.pump(0, 1, 10));
        a.ask(() -> x.team(3, true));
        for (int i = 0; i < 24; i++) {
            int cell = i;
            a.ask(() -> x.depth(cell, 5));
        }
        for (int i = 0; i < 24; i++) {
            int cell = i;
            a.ask(() -> x.shore(cell, Slickboom.MARSH));
        }
    }

    private static void borders(Slickboom x, Twins a) {
        for (int i = 0; i < 24 * 4; i++) {
            int cell = i / 4;
            int way = i % 4;
            a.ask(() -> x.boom(cell, way, 3));
        }
        for (int i = 0; i < 21; i++) {
            int mean = i;
            a.ask(() -> x.teach(mean));
        }
    }

    private static void anHourLater(Slickboom x, Twins a) {
        a.ask(() -> x.pass(1));
        cells(x, a);
        for (int i = 0; i < 20; i++) {
            int mean = i;
            a.ask(() -> x.meanIs(mean, 3));
        }
    }

    private static void halfADayLater(Slickboom x, Twins a) {
        a.ask(() -> x.wind(Slickboom.WEST, 6));
        a.ask(() -> x.pass(12));
        cells(x, a);
        for (int i = 0; i < 20; i++) {
            int mean = i;
            a.ask(() -> x.meanIs(mean, 3));
        }
    }

    /** Each TEAM twice, and a third time 8 HOURS later: so it shows how often it worked, and when. */
    private static void shifts(Slickboom x, Twins a) {
        int shore = firstShore(x);
        for (int times = 0; times < 3; times++) {
            for (int i = 0; i < 20; i++) {
                int mean = i;
                a.ask(() -> x.clean(mean, shore));
                a.ask(() -> x.carry(mean));
                a.ask(() -> x.meanIs(mean, 3));
            }
            int hours = times == 0 ? 1 : 8;
            a.ask(() -> x.pass(hours));
        }
    }

    private static int firstShore(Slickboom x) {
        int shore = 0;
        while (shore < 23 && x.at(shore, 3) == Slickboom.WATER) {
            shore++;
        }
        return shore;
    }

    private static void uses(Slickboom x, Twins a) {
        for (int i = 0; i < 24; i++) {
            int cell = i;
            a.ask(() -> x.wash(cell, 2));
            a.ask(() -> x.birds(cell, 1));
            a.ask(() -> x.sign(cell, 0));
            a.ask(() -> x.sign(cell, 1));
            a.ask(() -> x.sign(cell, 2));
            a.ask(() -> x.use(cell, Slickboom.DISPERSING));
            a.ask(() -> x.use(cell, Slickboom.BURNING));
        }
        for (int i = 0; i < 20; i++) {
            int mean = i;
            a.ask(() -> x.move(mean, 12));
        }
        sums(x, a);
    }

    private static void daysLater(Slickboom x, Twins a) {
        for (int days = 0; days < 3; days++) {
            a.ask(() -> x.pass(24));
            for (int i = 0; i < 24; i++) {
                int cell = i;
                a.ask(() -> x.why(cell, Slickboom.DISPERSING, 0));
                a.ask(() -> x.why(cell, Slickboom.BURNING, 2));
                a.ask(() -> x.at(cell, 1));
            }
            sums(x, a);
        }
    }
}
