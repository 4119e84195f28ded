import java.util.Random;
import java.util.TreeMap;

/** Compares what load() makes of random texts with the plain reading of the document. */
public final class RandomTextsTest {
    private static final int TEXTS = 6000;
    private static final TreeMap<Integer, Integer> SEEN = new TreeMap<>();

    private RandomTextsTest() {
    }

    public static void main(String[] args) {
        int seed = args.length > 0 ? Integer.parseInt(args[0]) : 1;
        RandomTexts texts = new RandomTexts(new Random(seed));
        WaitingBureau real = new WaitingBureau();
        PlainBureau plain = new PlainBureau();
        for (int i = 0; i < TEXTS; i++) {
            String text = texts.next(i % 4 != 0);
            Check.put(real, text);
            plain.buffer = text;
            Object due = Check.outcome(plain::load);
            Check.same("load() of " + text, due, Check.outcome(real::load));
            Check.same("errorCode() after " + text, plain.errorCode, real.errorCode());
            Check.same("errorPosition() after " + text, plain.errorPosition, real.errorPosition());
            compareStates(text, real, plain);
            SEEN.merge(plain.errorCode, 1, Integer::sum);
        }
        for (int code = 0; code <= 6; code++) {
            Check.same("whether error " + code + " came often", true, SEEN.getOrDefault(code, 0) > 9);
        }
        if (args.length > 0) {
            System.out.println(SEEN);
        }
        Check.end("RandomTextsTest");
    }

    private static void compareStates(String text, WaitingBureau real, PlainBureau plain) {
        for (int i = 0; i <= 12; i++) {
            int what = i;
            Check.same("count(" + i + ") after " + text, plain.count(what), real.count(what));
        }
        for (int i = 0; i < 5; i++) {
            Check.same("setting(" + i + ") after " + text, plain.setting(i), real.setting(i));
        }
        for (int o = 0; o < plain.w.offices.size(); o++) {
            for (int what = 0; what <= 5; what++) {
                Check.same("office(" + o + ", " + what + ") after " + text, plain.office(o, what), real.office(o, what));
            }
        }
        for (int p = 0; p < plain.w.persons.size(); p++) {
            for (int what = 0; what <= 9; what++) {
                Check.same("person(" + p + ", " + what + ") after " + text, plain.person(p, what), real.person(p, what));
            }
        }
        for (int t = 0; t < plain.w.tickets.size(); t++) {
            for (int what = 0; what <= 10; what++) {
                Check.same("ticket(" + t + ", " + what + ") after " + text, plain.ticket(t, what), real.ticket(t, what));
            }
        }
    }
}
