import java.nio.charset.StandardCharsets;
import java.util.Arrays;
import java.util.NoSuchElementException;

/** What the tests share: answers compared, exceptions awaited, texts fed. */
final class Check {
    interface Call {
        long run();
    }

    interface Indexed {
        long at(int n);
    }

    private static int wrong = 0;
    private static int checked = 0;

    private Check() {
    }

    static void is(String what, long got, long want) {
        checked++;
        if (got != want) {
            fail(what + " answered " + got + ", due is " + want);
        }
    }

    static void is(String what, boolean got, boolean want) {
        is(what, got ? 1 : 0, want ? 1 : 0);
    }

    static void is(String what, String got, String want) {
        checked++;
        if (!got.equals(want)) {
            fail(what + " answered '" + got + "', due is '" + want + "'");
        }
    }

    /** The answers for 0, 1, 2 and on. */
    static void answers(String what, Indexed call, int... due) {
        for (int k = 0; k < due.length; k++) {
            is(what + " " + k, call.at(k), due[k]);
        }
    }

    static void fail(String what) {
        wrong++;
        System.out.println(what);
    }

    /** The very class is due: an exception of the machine's is a subclass and so a fault. */
    static void refuses(String what, Class<? extends RuntimeException> due, Call call) {
        checked++;
        try {
            long got = call.run();
            fail(what + " answered " + got + ", due is " + due.getName());
        } catch (RuntimeException e) {
            if (e.getClass() != due) {
                fail(what + " threw " + e + ", due is " + due.getName());
            }
        }
    }

    static void refusesIndex(String what, Call call) {
        refuses(what, IndexOutOfBoundsException.class, call);
    }

    static void refusesNumber(String what, Call call) {
        refuses(what, IllegalArgumentException.class, call);
    }

    static void refusesMissing(String what, Call call) {
        refuses(what, NoSuchElementException.class, call);
    }

    static void feed(DotSpreader x, String text) {
        byte[] bytes = text.getBytes(StandardCharsets.ISO_8859_1);
        byte[] tape = Arrays.copyOf(bytes, (bytes.length + 19) / 20 * 20);
        for (int at = 0; at < tape.length; at += 20) {
            x.feed(word(tape, at), word(tape, at + 4), word(tape, at + 8), word(tape, at + 12), word(tape, at + 16));
        }
        x.end(bytes.length);
    }

    private static int word(byte[] tape, int at) {
        return (tape[at] & 255) << 24 | (tape[at + 1] & 255) << 16 | (tape[at + 2] & 255) << 8 | tape[at + 3] & 255;
    }

    static DotSpreader map(String text) {
        DotSpreader x = new DotSpreader();
        feed(x, text);
        x.read();
        return x;
    }

    /** THE FAULT of a text, NONE if it is right; a wrong one must throw, a right one must not. */
    static int faultOf(String text) {
        DotSpreader x = new DotSpreader();
        feed(x, text);
        boolean threw = false;
        try {
            x.read();
        } catch (IllegalArgumentException e) {
            threw = true;
        }
        is("read() of '" + text + "' throws", threw, x.fault() != DotSpreader.NONE);
        return x.fault();
    }

    /** The '^' in the text stands ahead of the byte that is THE FAULT (and is not fed); none: the text is right. */
    static void fault(String what, String marked) {
        int due = marked.indexOf('^');
        String text = due < 0 ? marked : marked.substring(0, due) + marked.substring(due + 1);
        is(what + ": fault() of '" + text + "'", faultOf(text), due);
    }

    static String written(DotSpreader x) {
        return written(x, 0);
    }

    /** What was WRITTEN from a byte on: a part of it, where all would be more calls than an object is for. */
    static String written(DotSpreader x, int from) {
        StringBuilder text = new StringBuilder();
        int sign = x.octet(from);
        while (sign != DotSpreader.NONE) {
            text.append((char) sign);
            sign = x.octet(from + text.length());
        }
        return text.toString();
    }

    static void done(String test) {
        System.out.println(test + ": " + checked + " checks, " + wrong + " wrong");
        if (wrong != 0 || checked == 0) {
            System.exit(1);
        }
    }
}
