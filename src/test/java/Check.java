import java.util.Objects;

/** What all tests share: comparing answers, catching what calls throw, and putting texts into the buffer. */
final class Check {
    interface Call {
        Object answer();
    }

    interface Deed {
        void run();
    }

    interface IntCall {
        Object answer(int argument);
    }

    private static int wrong = 0;
    private static int seen = 0;
    private static String about = "";

    private Check() {
    }

    /** What follows belongs to a promise of the document. */
    static void promise(int number) {
        about = "promise " + number + ": ";
    }

    /** What follows belongs to a part of the "Terms" of the document. */
    static void terms(String part) {
        about = "terms, " + part + ": ";
    }

    static void same(String what, Object due, Object got) {
        seen++;
        if (!Objects.equals(due, got)) {
            wrong++;
            System.out.println(about + what + " answered " + got + ", due is " + due);
        }
    }

    static void fails(String what, Class<?> due, Deed deed) {
        same(what, "throws." + due.getSimpleName(), outcome(() -> {
            deed.run();
            return "an answer";
        }));
    }

    static void outOfBounds(String what, Deed deed) {
        fails(what, IndexOutOfBoundsException.class, deed);
    }

    static void badArgument(String what, Deed deed) {
        fails(what, IllegalArgumentException.class, deed);
    }

    static void badState(String what, Deed deed) {
        fails(what, IllegalStateException.class, deed);
    }

    static void noElement(String what, Deed deed) {
        fails(what, java.util.NoSuchElementException.class, deed);
    }

    /** An argument can be what it can be first and last, and nothing beyond that. */
    static void range(String what, Class<?> beyond, int first, int last, IntCall call) {
        for (int good : new int[] {first, last}) {
            Object got = outcome(() -> call.answer(good));
            same(what + " of " + good + " throws", false, String.valueOf(got).startsWith("throws"));
        }
        beyond(what, beyond, first, last, call);
    }

    /** An argument can be nothing beyond what it can be first and last. */
    static void beyond(String what, Class<?> due, int first, int last, IntCall call) {
        for (int bad : new int[] {first - 1, last + 1, Integer.MIN_VALUE, Integer.MAX_VALUE}) {
            fails(what + " of " + bad, due, () -> call.answer(bad));
        }
    }

    /** The answer of a call, or the exact class of what it throws, so that a subclass counts as wrong. */
    static Object outcome(Call call) {
        try {
            return call.answer();
        } catch (RuntimeException e) {
            return "throws." + e.getClass().getSimpleName();
        }
    }

    /** Puts a text in place of what is in the buffer. */
    static void put(WaitingBureau bureau, String content) {
        bureau.truncate(0);
        StringBuilder padded = new StringBuilder(content);
        while (padded.length() % 20 != 0) {
            padded.append(' ');
        }
        for (int at = 0; at < padded.length(); at += 20) {
            bureau.append(word(padded, at), word(padded, at + 4), word(padded, at + 8),
                    word(padded, at + 12), word(padded, at + 16));
        }
        bureau.truncate(content.length());
    }

    static int word(CharSequence bytes, int at) {
        return (bytes.charAt(at) & 255) << 24 | (bytes.charAt(at + 1) & 255) << 16
                | (bytes.charAt(at + 2) & 255) << 8 | bytes.charAt(at + 3) & 255;
    }

    /** A new object with a text loaded. */
    static WaitingBureau loaded(String content) {
        WaitingBureau bureau = new WaitingBureau();
        put(bureau, content);
        bureau.load();
        return bureau;
    }

    static String output(WaitingBureau bureau, int length) {
        StringBuilder bytes = new StringBuilder();
        for (int place = 0; place < length; place++) {
            bytes.append((char) bureau.outputByte(place));
        }
        return bytes.toString();
    }

    static void end(String name) {
        System.out.println(name + ": " + seen + " answers, " + wrong + " wrong");
        if (wrong != 0 || seen == 0) {
            System.exit(1);
        }
    }
}
