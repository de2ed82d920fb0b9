import java.nio.charset.StandardCharsets;
import java.util.NoSuchElementException;

/** What the tests share: calls with the answer that is due, and texts that are fed. */
final class Check {
    interface Call {
        long answer();
    }

    static final long NO_SUCH = Long.MIN_VALUE + 1;
    static final long BAD_ARGUMENT = Long.MIN_VALUE + 2;
    static final long OTHER = Long.MIN_VALUE + 3;

    private final String name;
    private int wrong = 0;
    private int asked = 0;

    Check(String name) {
        this.name = name;
    }

    static long ask(Call call) {
        try {
            return call.answer();
        } catch (NoSuchElementException e) {
            return e.getClass() == NoSuchElementException.class ? NO_SUCH : OTHER;
        } catch (IllegalArgumentException e) {
            return e.getClass() == IllegalArgumentException.class ? BAD_ARGUMENT : OTHER;
        } catch (RuntimeException e) {
            return OTHER;
        }
    }

    void due(String what, long want, Call call) {
        long got = ask(call);
        asked++;
        if (got != want) {
            wrong++;
            System.out.println(name + ": " + what + " answered " + shown(got) + ", due is " + shown(want));
        }
    }

    void noSuch(String what, Call call) {
        due(what, NO_SUCH, call);
    }

    void badArgument(String what, Call call) {
        due(what, BAD_ARGUMENT, call);
    }

    void end() {
        System.out.println(name + ": " + asked + " answers, " + wrong + " wrong");
        if (wrong != 0) {
            System.exit(1);
        }
    }

    static String shown(long answer) {
        if (answer == NO_SUCH) {
            return "NoSuchElementException";
        }
        if (answer == BAD_ARGUMENT) {
            return "IllegalArgumentException";
        }
        return answer == OTHER ? "another exception" : Long.toString(answer);
    }

    static void feed(DustParish parish, String text) {
        byte[] bytes = text.getBytes(StandardCharsets.ISO_8859_1);
        for (int at = 0; at < bytes.length; at += 20) {
            int[] five = new int[5];
            for (int i = 0; i < 20; i++) {
                int value = at + i < bytes.length ? bytes[at + i] & 255 : 32;
                five[i / 4] = five[i / 4] << 8 | value;
            }
            parish.feed(five[0], five[1], five[2], five[3], five[4]);
        }
    }

    static int tell(DustParish parish, String text) {
        feed(parish, text);
        return parish.parish(text.length());
    }

    static DustParish told(String text) {
        DustParish parish = new DustParish();
        int fault = tell(parish, text);
        if (fault != 0) {
            throw new IllegalStateException("fault " + fault + " at " + parish.fault() + " of " + text);
        }
        return parish;
    }
}
