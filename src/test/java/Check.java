import java.nio.charset.StandardCharsets;
import java.util.NoSuchElementException;
import java.util.function.LongSupplier;

/** What the tests share: counting wrong answers, and telling a mill a text of rules. */
final class Check {
    private static int wrong = 0;
    private static int asked = 0;

    private Check() {
    }

    static void same(String what, long got, long due) {
        asked++;
        if (got != due) {
            wrong++;
            System.out.println(what + " answered " + got + ", due is " + due);
        }
    }

    static void holds(String what, boolean got) {
        same(what, got ? 1 : 0, 1);
    }

    static void none(String what, long got) {
        same(what, got, RollMill.NONE);
    }

    static void noSuch(String what, LongSupplier call) {
        holds(what + " throws NoSuchElementException", thrownBy(call) == NoSuchElementException.class);
    }

    static void illegal(String what, LongSupplier call) {
        holds(what + " throws IllegalArgumentException", thrownBy(call) == IllegalArgumentException.class);
    }

    static void quiet(String what, LongSupplier call) {
        holds(what + " throws nothing", thrownBy(call) == null);
    }

    private static Class<?> thrownBy(LongSupplier call) {
        try {
            call.getAsLong();
            return null;
        } catch (RuntimeException thrown) {
            return thrown.getClass();
        }
    }

    /** Feeds a text, filled up with blanks to whole feeds: how many bytes it has itself. */
    static int feedText(RollMill mill, String text) {
        byte[] bytes = text.getBytes(StandardCharsets.ISO_8859_1);
        for (int i = 0; i < bytes.length; i += 20) {
            mill.feed(four(bytes, i), four(bytes, i + 4), four(bytes, i + 8), four(bytes, i + 12), four(bytes, i + 16));
        }
        return bytes.length;
    }

    private static int four(byte[] bytes, int from) {
        int number = 0;
        for (int i = from; i < from + 4; i++) {
            number = number << 8 | (i < bytes.length ? bytes[i] & 255 : ' ');
        }
        return number;
    }

    static int rules(RollMill mill, String text) {
        return mill.rules(feedText(mill, text));
    }

    /** Ends the test: with 1, if an answer was wrong. */
    static void end(String name) {
        System.out.println(name + ": " + (asked - wrong) + " of " + asked + " answers are as due");
        if (wrong > 0) {
            System.exit(1);
        }
    }
}
