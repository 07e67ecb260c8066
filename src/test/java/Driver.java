import java.lang.reflect.InvocationTargetException;
import java.lang.reflect.Method;
import java.util.HashMap;
import java.util.Map;
import java.util.NoSuchElementException;

/** Calls of a SqueezedSwap by name, with the answers as SwapModel tells them, and texts put on the tape. */
final class Driver {
    private static final Map<String, Method> FACE = new HashMap<>();

    static {
        for (Method m : SqueezedSwap.class.getDeclaredMethods()) {
            if (java.lang.reflect.Modifier.isPublic(m.getModifiers())) {
                FACE.put(m.getName(), m);
            }
        }
    }

    private Driver() {
    }

    static int call(SqueezedSwap x, String name, int... args) {
        Method m = FACE.get(name);
        Object[] boxed = new Object[args.length];
        for (int i = 0; i < args.length; i++) {
            boxed[i] = m.getParameterTypes()[i] == boolean.class ? (Object) (args[i] == 1) : (Object) args[i];
        }
        try {
            Object answer = m.invoke(x, boxed);
            return answer instanceof Boolean b ? (b ? 1 : 0) : (Integer) answer;
        } catch (InvocationTargetException e) {
            if (name.equals("onDisk") && e.getCause().getClass() == NoSuchElementException.class) {
                return SwapModel.THROWN;
            }
            throw new IllegalStateException(name + java.util.Arrays.toString(args) + " threw", e.getCause());
        } catch (IllegalAccessException e) {
            throw new IllegalStateException(e);
        }
    }

    /** The arguments of the feeds that bring a text, the last filled up with a byte of which no text is made. */
    static int[][] feeds(String text) {
        int[][] feeds = new int[(text.length() + 19) / 20][5];
        for (int i = 0; i < feeds.length * 20; i++) {
            int sign = i < text.length() ? text.charAt(i) & 255 : '#';
            feeds[i / 20][i % 20 / 4] |= sign << (24 - 8 * (i % 4));
        }
        return feeds;
    }

    /** Puts a text on the tape. */
    static void feed(SqueezedSwap x, String text) {
        for (int[] f : feeds(text)) {
            x.feed(f[0], f[1], f[2], f[3], f[4]);
        }
    }

    static int tell(SqueezedSwap x, String text) {
        feed(x, text);
        return x.swap(text.length());
    }
}
