import java.util.function.BiConsumer;
import java.util.function.Consumer;
import java.util.function.Supplier;

/** Calls that are refused: each throws just what is due, and nothing is changed by it. */
final class Refused {
    private Refused() {
    }

    /** No such number. */
    static void number(String what, Supplier<Slickboom> told, Consumer<Slickboom> call) {
        test(what, IndexOutOfBoundsException.class, told, call);
    }

    /** An argument is out of range. */
    static void range(String what, Supplier<Slickboom> told, Consumer<Slickboom> call) {
        test(what, IllegalArgumentException.class, told, call);
    }

    /** Not as it is now. */
    static void state(String what, Supplier<Slickboom> told, Consumer<Slickboom> call) {
        test(what, IllegalStateException.class, told, call);
    }

    /** Of the numbers 0 to count - 1 the nearest ones that are none, and the furthest. */
    static void numbers(String what, int count, Supplier<Slickboom> told, BiConsumer<Slickboom, Integer> call) {
        for (int number : new int[] {Integer.MIN_VALUE, -1, count, Integer.MAX_VALUE}) {
            number(what + " " + number, told, x -> call.accept(x, number));
        }
    }

    /** Of a range the nearest values that are out of it, and the furthest. */
    static void ranges(String what, int least, int most, Supplier<Slickboom> told, BiConsumer<Slickboom, Integer> call) {
        for (int value : new int[] {Integer.MIN_VALUE, least - 1, most + 1, Integer.MAX_VALUE}) {
            range(what + " " + value, told, x -> call.accept(x, value));
        }
    }

    private static void test(String what, Class<? extends RuntimeException> due,
            Supplier<Slickboom> told, Consumer<Slickboom> call) {
        Check.is(what + " throws", thrownBy(told.get(), call), due.getName());
        Twins.same(what + " changes nothing", told, x -> thrownBy(x, call));
    }

    private static String thrownBy(Slickboom x, Consumer<Slickboom> call) {
        try {
            call.accept(x);
            return "nothing";
        } catch (RuntimeException e) {
            return e.getClass().getName();
        }
    }
}
