import java.lang.reflect.Constructor;
import java.lang.reflect.Field;
import java.lang.reflect.Method;

/**
 * Messages that the document has a rule for, but that no run of calls can bring about: a link is
 * empty whenever one of its ends was down, and keeps the order, so nothing late comes over it. They
 * are put on a link by hand; this is the only place of the tests that knows the class from inside.
 */
final class Forged {
    private Forged() {
    }

    /** Asked: terminal, incarnation, number, epoch, kind, record, value. */
    static void request(MirrorPairs x, int from, int to, int... asked) {
        Object message = message(1);
        set(message, "request", make("Request", asked));
        send(x, from, to, message);
    }

    /** Replied: terminal, incarnation, number, result, int, epoch. */
    static void reply(MirrorPairs x, int from, int to, int... replied) {
        Object message = message(2);
        set(message, "answer", make("Answer", replied));
        send(x, from, to, message);
    }

    /** A checkpoint of a terminal's first state. */
    static void checkpoint(MirrorPairs x, int from, int to, int pair, int number) {
        Object message = message(3);
        set(message, "pair", pair);
        set(message, "told", number);
        send(x, from, to, message);
    }

    static void word(MirrorPairs x, int from, int to, int pair, int number) {
        Object message = message(5);
        set(message, "pair", pair);
        set(message, "told", number);
        send(x, from, to, message);
    }

    private static Object message(int kind) {
        return make("Message", kind);
    }

    private static Object make(String name, int... values) {
        try {
            Constructor<?> maker = Class.forName("MirrorPairs$" + name).getDeclaredConstructors()[0];
            maker.setAccessible(true);
            Object[] given = new Object[values.length];
            for (int k = 0; k < values.length; k++) {
                given[k] = values[k];
            }
            return maker.newInstance(given);
        } catch (ReflectiveOperationException e) {
            throw new IllegalStateException(e);
        }
    }

    private static void set(Object message, String name, Object value) {
        try {
            Field field = message.getClass().getDeclaredField(name);
            field.setAccessible(true);
            field.set(message, value);
        } catch (ReflectiveOperationException e) {
            throw new IllegalStateException(e);
        }
    }

    private static void send(MirrorPairs x, int from, int to, Object message) {
        try {
            Field field = MirrorPairs.class.getDeclaredField("network");
            field.setAccessible(true);
            Object network = field.get(x);
            Method method = network.getClass().getDeclaredMethod("send", int.class, int.class, message.getClass());
            method.setAccessible(true);
            method.invoke(network, from, to, message);
        } catch (ReflectiveOperationException e) {
            throw new IllegalStateException(e);
        }
    }
}
