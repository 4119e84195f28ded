import java.util.Random;
import java.util.TreeMap;

/** Compares what load() makes of random texts with the plain reading of the document. */
public final class RandomTextsTest {
    private static final int TEXTS = 6000;
    private static final TreeMap<Integer, Integer> SEEN = new TreeMap<>();

    private final String text;
    private final PlainBureau plain = new PlainBureau();
    private WaitingBureau real;
    private int left;

    private RandomTextsTest(String text) {
        this.text = text;
        plain.buffer = text;
    }

    public static void main(String[] args) {
        int seed = args.length > 0 ? Integer.parseInt(args[0]) : 1;
        RandomTexts texts = new RandomTexts(new Random(seed));
        for (int i = 0; i < TEXTS; i++) {
            new RandomTextsTest(texts.next(i % 4 != 0)).run();
        }
        for (int code = 0; code <= 6; code++) {
            Check.same("whether error " + code + " came often", true, SEEN.getOrDefault(code, 0) > 9);
        }
        if (args.length > 0) {
            System.out.println(SEEN);
        }
        Check.end("RandomTextsTest");
    }

    private void run() {
        real = new WaitingBureau();
        Check.put(real, text);
        Object due = Check.outcome(plain::load);
        Check.promise(4);
        Check.same("load() of " + text, due, Check.outcome(real::load));
        Check.promise(5);
        Check.same("errorCode() after " + text, plain.errorCode, real.errorCode());
        Check.promise(6);
        Check.same("errorPosition() after " + text, plain.errorPosition, real.errorPosition());
        Check.promise(4);
        compareStates();
        SEEN.merge(plain.errorCode, 1, Integer::sum);
    }

    /** The object for the next call; none is used for more than 512 calls, of which the text takes at most 53. */
    private WaitingBureau next() {
        if (left == 0) {
            real = new WaitingBureau();
            Check.put(real, text);
            Check.outcome(real::load);
            left = 400;
        }
        left--;
        return real;
    }

    private void compareStates() {
        for (int what = 0; what <= 12; what++) {
            Check.same("count(" + what + ") after " + text, plain.count(what), next().count(what));
        }
        for (int what = 0; what < 5; what++) {
            Check.same("setting(" + what + ") after " + text, plain.setting(what), next().setting(what));
        }
        for (int o = 0; o < plain.w.offices.size(); o++) {
            for (int what = 0; what <= 5; what++) {
                Check.same("office(" + o + ", " + what + ") after " + text, plain.office(o, what), next().office(o, what));
            }
        }
        for (int p = 0; p < plain.w.persons.size(); p++) {
            for (int what = 0; what <= 9; what++) {
                Check.same("person(" + p + ", " + what + ") after " + text, plain.person(p, what), next().person(p, what));
            }
        }
        for (int t = 0; t < plain.w.tickets.size(); t++) {
            for (int what = 0; what <= 10; what++) {
                Check.same("ticket(" + t + ", " + what + ") after " + text, plain.ticket(t, what), next().ticket(t, what));
            }
        }
    }
}
