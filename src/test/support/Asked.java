import java.lang.reflect.InvocationTargetException;
import java.lang.reflect.Method;

/** One call by its name and its arguments, for the program and the model alike. */
public final class Asked {
    private final String name;
    private final int[] arguments;

    public Asked(String name, int... arguments) {
        this.name = name;
        this.arguments = arguments.clone();
    }

    /** The answer as a text; for an exception "throws." and its name. */
    public String of(Object desk) {
        try {
            return String.valueOf(method(desk).invoke(desk, boxed()));
        } catch (InvocationTargetException e) {
            return "throws." + e.getCause().getClass().getSimpleName();
        } catch (IllegalAccessException e) {
            return "can't be called";
        }
    }

    private Method method(Object desk) {
        for (Method method : desk.getClass().getMethods()) {
            if (method.getName().equals(name) && method.getParameterCount() == arguments.length) {
                return method;
            }
        }
        throw new IllegalArgumentException("there is no method " + this);
    }

    private Object[] boxed() {
        Object[] boxed = new Object[arguments.length];
        for (int i = 0; i < boxed.length; i++) {
            boxed[i] = arguments[i];
        }
        return boxed;
    }

    @Override
    public String toString() {
        StringBuilder text = new StringBuilder(name).append('(');
        for (int i = 0; i < arguments.length; i++) {
            text.append(i == 0 ? "" : ", ").append(arguments[i]);
        }
        return text.append(')').toString();
    }
}
