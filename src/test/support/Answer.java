import java.util.function.Supplier;

/** What a call answered, as a text; an exception as "throws." and its name. */
public final class Answer {
    private Answer() {
    }

    public static String of(Supplier<Object> call) {
        try {
            return String.valueOf(call.get());
        } catch (RuntimeException e) {
            return "throws." + e.getClass().getSimpleName();
        }
    }
}
