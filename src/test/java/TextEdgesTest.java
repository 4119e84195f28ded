import java.util.NoSuchElementException;

/** The boundaries that promises 1 to 7 and the text of the "Terms" name. */
public final class TextEdgesTest {
    private static final String HEAD = "bureau 9 3 9 20 99 99999;";
    private static final String START = HEAD + "office a 1 6 1;person x;person y;";

    private TextEdgesTest() {
    }

    public static void main(String[] args) {
        newObject();
        append();
        bytesInTheirOrder();
        bytesAheadOfOthers();
        truncate();
        load();
        loadIntoUsedRows();
        wholeBuffer();
        errorOfTheLatestLoad();
        wordsOfTheGrammar();
        leftOut();
        headNumbers();
        officeNumbers();
        passNumbers();
        digits();
        words();
        numbersAheadOfWords();
        names();
        knownNames();
        latestTickets();
        numberOfOffices();
        numberOfPersons();
        impossibleJoins();
        impossiblePasses();
        impossibleClaims();
        impossibleWitnesses();
        firstErrorAndLowestCode();
        find();
        Check.end("TextEdgesTest");
    }

    private static void newObject() {
        Check.promise(1);
        String text = "bureau 1 1 2 5 3 20;office a 1 2 6;office b 1 1 4;person x;person y;person z;";
        Check.same("everything of a new object", Snapshot.of(() -> Check.loaded(text)), Snapshot.of(WaitingBureau::new));
        WaitingBureau fresh = new WaitingBureau();
        Check.same("the present time", 0, fresh.count(3));
        Check.same("truncate(0) of an empty buffer", 0, fresh.truncate(0));
        Check.outOfBounds("truncate(1) of an empty buffer", () -> fresh.truncate(1));
        Check.outOfBounds("outputByte(0) without output", () -> fresh.outputByte(0));
        Check.promise(5);
        Check.same("errorCode() without a load()", 0, fresh.errorCode());
        Check.promise(6);
        Check.same("errorPosition() without a load()", WaitingBureau.NONE, fresh.errorPosition());
    }

    // ---- the buffer

    private static WaitingBureau filled(int length) {
        WaitingBureau bureau = new WaitingBureau();
        Check.put(bureau, ".".repeat(length));
        return bureau;
    }

    private static void append() {
        Check.promise(2);
        WaitingBureau bureau = new WaitingBureau();
        for (int length = 20; length <= 1000; length += 20) {
            Check.same("append()", length, bureau.append(0, -1, Integer.MAX_VALUE, Integer.MIN_VALUE, 1));
        }
        Check.badState("append() to 1000 bytes", () -> bureau.append(0, 0, 0, 0, 0));
        Check.same("append() to 979 bytes", 999, filled(979).append(0, 0, 0, 0, 0));
        Check.same("append() to 980 bytes", 1000, filled(980).append(0, 0, 0, 0, 0));
        Check.badState("append() to 981 bytes", () -> filled(981).append(0, 0, 0, 0, 0));
        Check.badState("append() to 999 bytes", () -> filled(999).append(0, 0, 0, 0, 0));
    }

    /** Of 20 bytes one is no blank; where it is shows as the position of the error. */
    private static void bytesInTheirOrder() {
        Check.promise(2);
        for (int odd : new int[] {0, 9, 11, 31, 33, 127, 128, 160, 255}) {
            for (int place = 0; place < 20; place++) {
                int[] words = {0x20202020, 0x0a0a0a0a, 0x20202020, 0x0a200a20, 0x200a200a};
                int shift = 24 - place % 4 * 8;
                words[place / 4] = words[place / 4] & ~(255 << shift) | odd << shift;
                WaitingBureau bureau = new WaitingBureau();
                bureau.append(words[0], words[1], words[2], words[3], words[4]);
                Check.badArgument("load() of byte " + odd, bureau::load);
                Check.same("position of byte " + odd, place, bureau.errorPosition());
                Check.same("code of byte " + odd, 1, bureau.errorCode());
            }
        }
    }

    /** A byte is the same whatever stands behind it, and also where the argument is negative. */
    private static void bytesAheadOfOthers() {
        Check.promise(2);
        WaitingBureau bureau = Check.loaded(HEAD + "office b 1 1 1;office bb 1 1 1;office bbb 1 1 1;office bbbb 1 1 1;");
        for (int length = 1; length <= 4; length++) {
            int kept = -1 << 32 - 8 * length;
            for (int behind : new int[] {0, -1, 0x80000000, 0x01010101, 0x7fffffff}) {
                int word = 0x62626262 & kept | behind & ~kept;
                bureau.append(word, behind, behind, behind, behind);
                bureau.truncate(length);
                Check.same("find() of the first " + length + " bytes of " + word, length - 1,
                        Check.outcome(() -> bureau.find(true)));
            }
            int odd = 0x62626262 ^ 0x80 << 32 - 8 * length;
            bureau.append(odd, 0, 0, 0, 0);
            bureau.truncate(length);
            Check.noElement("find() of the first " + length + " bytes of " + odd, () -> bureau.find(true));
        }
    }

    private static void truncate() {
        Check.promise(3);
        for (int length : new int[] {0, 1, 20, 999, 1000}) {
            Check.range("truncate() of " + length + " bytes", IndexOutOfBoundsException.class, 0, length,
                    argument -> filled(length).truncate(argument));
        }
        WaitingBureau bureau = filled(0);
        Check.put(bureau, "xyz");
        Check.same("truncate() to the present length", 3, bureau.truncate(3));
        Check.same("truncate(1)", 1, bureau.truncate(1));
        Check.outOfBounds("truncate() to the length before", () -> bureau.truncate(3));
        Check.same("find() of what stays", 0, bureau.find(false));
        Check.same("truncate(0) of nothing", 0, bureau.truncate(0));
    }

    // ---- load

    private static void load() {
        Check.promise(4);
        Check.same("load() without persons", 0, accepted(HEAD + "office a 1 1 1;").count(1));
        WaitingBureau bureau = Check.loaded("bureau 0 0 1 9 1 9;office a 1 1 1;office b 1 1 1;person x;person k;"
                + "join x a;pass 1;claim x;");
        bureau.save(0);
        bureau.save(1);
        bureau.offer(0, 1);
        bureau.merge(0, 1);
        bureau.write(0);
        Check.put(bureau, HEAD + "office q 1 1 1;person q;");
        Check.same("load()", 1, bureau.load());
        String due = Snapshot.state(() -> Check.loaded(HEAD + "office q 1 1 1;person q;"));
        Check.same("state of what is loaded into a used object", due, Snapshot.state(TextEdgesTest::loadedTwice));
        Check.same("changes", 0, bureau.count(12));
        Check.badState("undo() after load()", bureau::undo);
        Check.noElement("restore(0) after load()", () -> bureau.restore(0));
        Check.noElement("restore(1) after load()", () -> bureau.restore(1));
        Check.outOfBounds("outputByte(0) after load()", () -> bureau.outputByte(0));
        Check.outOfBounds("truncate(1) after load()", () -> bureau.truncate(1));
    }

    private static WaitingBureau loadedTwice() {
        WaitingBureau bureau = Check.loaded("bureau 0 0 1 9 1 9;office a 1 1 1;office b 1 1 1;person x;person k;"
                + "join x a;pass 1;claim x;");
        bureau.offer(0, 1);
        bureau.merge(0, 1);
        bureau.join(1, 1);
        Check.put(bureau, HEAD + "office q 1 1 1;person q;");
        bureau.load();
        return bureau;
    }

    /** What was tried out ahead of it, by a text with an error or by foretelling, leaves nothing in what is loaded. */
    private static void loadIntoUsedRows() {
        Check.promise(4);
        String used = "bureau 0 1 1 20 1 2;" + Texts.offices(6, "4 6 16") + Texts.persons(16)
                + Texts.joins(16, "a") + Texts.joins(9, "f") + "pass 12;claim a;witness b a;join p f;";
        loadIntoUsedRows(used, HEAD + Texts.offices(6, "1 6 16") + Texts.persons(16));
        loadIntoUsedRows(used, "bureau 0 1 1 9 1 9;" + Texts.offices(2, "4 6 16") + Texts.persons(9)
                + "join i a;join h a;join g a;join f a;join e b;pass 6;claim f;claim g;witness h g;join i a;join h b;");
        loadIntoUsedRows("bureau 0 0 1 9 1 2;office a 4 3 9;person x;person y;join x a;join y a;pass 3;claim x;claim y;",
                "bureau 0 1 1 9 1 9;office a 4 3 9;person x;person y;join x a;pass 1;join y a;pass 5;claim y;witness x y;");
        loadIntoUsedRows("bureau 0 1 1 9 1 2;office a 4 3 9;person x;person y;join x a;join y a;pass 3;claim x;witness y x;",
                "bureau 0 1 1 9 1 9;office a 4 3 9;person x;person y;join x a;join y a;pass 3;claim y;");
    }

    private static void loadIntoUsedRows(String used, String text) {
        String due = Snapshot.state(() -> Check.loaded(text));
        Check.same("state after a load() that throws and that of " + text, due, Snapshot.state(() -> {
            WaitingBureau bureau = new WaitingBureau();
            Check.put(bureau, used + "?");
            Check.badArgument("load()", bureau::load);
            Check.put(bureau, text);
            bureau.load();
            return bureau;
        }));
        Check.same("state after foretelling and load() of " + text, due, Snapshot.state(() -> {
            WaitingBureau bureau = Check.loaded(used);
            bureau.offer(0, 3);
            bureau.tokensIn(1);
            Check.put(bureau, text);
            bureau.load();
            return bureau;
        }));
    }

    /** No letter of a word of the grammar can be another one, and none can be left out or come more. */
    private static void wordsOfTheGrammar() {
        Check.promise(4);
        String[] words = {"bureau", "office", "person", "join", "pass", "claim", "witness"};
        String[] rests = {" 9 3 9 20 99 9;office a 1 1 1;", " b 1 1 1;", " p;", " x a;", " 1;", " x;", " y x;"};
        String office = HEAD + "office a 1 1 1;";
        String served = HEAD + "office a 4 1 9;person x;person y;join x a;join y a;pass 1;";
        String[] starts = {"", office, office, office + "person x;", office, served, served + "claim x;"};
        int[] due = {0, 0, 1, 1, 0, 2};
        for (int i = 0; i < words.length; i++) {
            String word = words[i];
            if (i < due.length) {
                Check.same("persons of the text with " + word, due[i], persons(starts[i] + word + rests[i]));
            }
            for (int at = 0; at < word.length(); at++) {
                String before = word.substring(0, at);
                String after = word.substring(at + 1);
                error(1, starts[i], before + "q" + after + rests[i]);
                error(1, starts[i], before + after + rests[i]);
                error(1, starts[i], before + "q" + word.substring(at) + rests[i]);
            }
            error(1, starts[i], word + "q" + rests[i]);
        }
        error(1, "", "office a 1 1 1;person x;");
        error(1, "", "office a 1 1 1;");
        error(1, "", "person x;");
        error(1, "", ";office a 1 1 1;");
        error(1, HEAD, "person x;");
        error(1, HEAD, "join x a;");
    }

    private static int persons(String text) {
        WaitingBureau bureau = new WaitingBureau();
        Check.put(bureau, text);
        return bureau.load();
    }

    /** A text of 1000 bytes, with its last token or an error at its very end. */
    private static void wholeBuffer() {
        Check.promise(4);
        accepted(START + " ".repeat(992 - START.length()) + "pass 99;");
        error(1, START + "\n".repeat(999 - START.length()), "?");
        error(1, START + "\n".repeat(999 - START.length()), "x");
        error(1, START + " ".repeat(993 - START.length()) + "pass 99", "");
        accepted(" ".repeat(1000 - START.length()) + START);
        error(1, " ".repeat(1000), "");
    }

    private static WaitingBureau accepted(String text) {
        WaitingBureau bureau = new WaitingBureau();
        Check.put(bureau, text);
        Check.same("load() of " + text + " throws", false, String.valueOf(Check.outcome(bureau::load)).startsWith("throws"));
        Check.same("errorCode() of " + text, 0, bureau.errorCode());
        Check.same("errorPosition() of " + text, WaitingBureau.NONE, bureau.errorPosition());
        Check.outOfBounds("truncate(1) after load()", () -> bureau.truncate(1));
        return bureau;
    }

    /** Loads a text with an error whose first wrong byte is behind a part that is good. */
    private static void error(int code, String good, String rest) {
        WaitingBureau bureau = new WaitingBureau();
        Check.put(bureau, good + rest);
        Check.badArgument("load() of " + good + rest, bureau::load);
        Check.same("errorCode() of " + good + rest, code, bureau.errorCode());
        Check.same("errorPosition() of " + good + rest, good.length(), bureau.errorPosition());
        Check.outOfBounds("truncate(1) after load() of " + good + rest, () -> bureau.truncate(1));
        Check.same("persons after load() of " + good + rest, 3, bureau.count(1));
    }

    private static void errorOfTheLatestLoad() {
        WaitingBureau bureau = new WaitingBureau();
        for (int round = 0; round < 2; round++) {
            Check.put(bureau, " ?");
            Check.badArgument("load()", bureau::load);
            Check.put(bureau, "q");
            Check.noElement("find()", () -> bureau.find(true));
            Check.promise(5);
            Check.same("errorCode() of the latest load()", 1, bureau.errorCode());
            Check.promise(6);
            Check.same("errorPosition() of the latest load()", 1, bureau.errorPosition());
            Check.put(bureau, HEAD + "office a 1 9");
            Check.badArgument("load()", bureau::load);
            Check.same("errorCode() of another load()", 2, bureau.errorCode());
            Check.same("errorPosition() of another load()", HEAD.length() + 11, bureau.errorPosition());
            Check.put(bureau, START);
            bureau.load();
            Check.promise(5);
            Check.same("errorCode() when there was no error", 0, bureau.errorCode());
            Check.promise(6);
            Check.same("errorPosition() when there was no error", WaitingBureau.NONE, bureau.errorPosition());
        }
    }

    // ---- code 1

    /** Where one token is left out, the next one cannot stand; but numbers and names take the place of others. */
    private static void leftOut() {
        Check.promise(4);
        String[] tokens = ("bureau 1 0 2 5 3 20 ; office a 1 2 6 ; office b 1 1 4 ; person x ; person y ; "
                + "join x a ; pass 2 ; claim x ; join y b ; join x b ; pass 3 ; claim y ; witness x y ;").split(" ");
        for (int left = 0; left < tokens.length; left++) {
            String before = left == 0 ? "" : tokens[left - 1];
            boolean isMovedUp = tokens[left].matches("[0-9]+") || before.equals("witness");
            int wrong = left + 1;
            while (isMovedUp && !tokens[wrong].equals(";")) {
                wrong++;
            }
            // The name of an office stands in the place of a person then.
            int code = before.equals("join") ? 4 : 1;
            error(code, joined(tokens, 0, left) + joined(tokens, left + 1, wrong), joined(tokens, wrong, tokens.length));
        }
        for (int numbers = 0; numbers < 6; numbers++) {
            String head = joined(tokens, 0, numbers + 1);
            error(1, head, joined(tokens, 7, tokens.length));
            error(1, head, joined(tokens, 8, tokens.length));
            error(1, head, "");
        }
        for (int numbers = 0; numbers < 3; numbers++) {
            error(1, joined(tokens, 0, numbers + 10), joined(tokens, 13, tokens.length));
            error(1, joined(tokens, 0, numbers + 10), joined(tokens, 14, tokens.length));
        }
    }

    private static String joined(String[] tokens, int from, int to) {
        StringBuilder text = new StringBuilder();
        for (int i = from; i < to; i++) {
            text.append(tokens[i]).append(' ');
        }
        return text.toString();
    }

    // ---- code 2

    /** Puts numbers in place of one of a part of a text. */
    private static void numbers(String before, String[] numbers, int at, String after, int first, int last) {
        StringBuilder front = new StringBuilder(before);
        for (int i = 0; i < at; i++) {
            front.append(' ').append(numbers[i]);
        }
        StringBuilder back = new StringBuilder();
        for (int i = at + 1; i < numbers.length; i++) {
            back.append(' ').append(numbers[i]);
        }
        back.append(after);
        front.append(' ');
        accepted(front.toString() + first + back);
        accepted(front.toString() + last + back);
        if (last < 9999) {
            accepted(front + "0" + last + back);
            error(2, front.toString(), "" + (last + 1) + back);
            error(2, front.toString(), "0" + (last + 1) + back);
            error(2, front.toString(), "99999" + back);
        }
        if (first > 0) {
            error(2, front.toString(), "0" + back);
            error(2, front.toString(), "00000" + back);
        }
    }

    private static void headNumbers() {
        Check.promise(4);
        String[] numbers = {"1", "1", "1", "1", "1", "1"};
        int[] first = {0, 0, 1, 1, 1, 0};
        int[] last = {9, 3, 9, 20, 99, 99999};
        for (int at = 0; at < 6; at++) {
            numbers("bureau", numbers, at, ";office a 1 1 1;", first[at], last[at]);
        }
        WaitingBureau most = accepted("bureau 9 3 9 20 99 99999;office a 1 1 1;");
        WaitingBureau least = accepted("bureau 0 0 1 1 1 0;office a 1 1 1;");
        for (int what = 0; what < 5; what++) {
            Check.same("greatest setting " + what, last[what], most.setting(what));
            Check.same("least setting " + what, first[what], least.setting(what));
        }
        Check.same("greatest FUND", 99999, most.count(11));
        Check.same("least FUND", 0, least.count(11));
    }

    private static void officeNumbers() {
        Check.promise(4);
        int[] last = {4, 6, 20};
        for (int at = 0; at < 3; at++) {
            String[] numbers = {"1", "1", "1"};
            numbers(HEAD + "office a", numbers, at, ";", 1, last[at]);
            numbers[at] = "" + last[at];
            WaitingBureau bureau = accepted(HEAD + "office a " + String.join(" ", numbers) + ";");
            for (int what = 0; what < 3; what++) {
                Check.same("number " + what, what == at ? last[at] : 1, bureau.office(0, what));
            }
        }
    }

    private static void passNumbers() {
        Check.promise(4);
        numbers(START + "pass", new String[] {"1"}, 0, ";", 1, 99);
        Check.same("time after pass 1", 1, accepted(START + "pass 1;").count(3));
        Check.same("time after pass 99", 99, accepted(START + "pass 99;").count(3));
    }

    // ---- code 1

    private static void digits() {
        Check.promise(4);
        accepted("bureau 00009 00003 00009 00020 00099 00000;office a 00004 00006 00020;");
        error(1, "bureau ", "000009 1 1 1 1 1;office a 1 1 1;");
        error(1, "bureau 1 1 1 1 1 ", "100000;office a 1 1 1;");
        error(1, "bureau 1 1 1 1 1 ", "099999;office a 1 1 1;");
        error(1, HEAD + "office a ", "000001 1 1;");
        error(1, START + "pass ", "000001;");
        error(1, "bureau 1 1 1 1 1 ", "12345678901234567890;office a 1 1 1;");
        Check.same("FUND of five digits", 12345, accepted("bureau 1 1 1 1 1 12345;office a 1 1 1;").count(11));
    }

    /** Words are as long as possible, and blanks may stand before, between and behind the tokens. */
    private static void words() {
        Check.promise(4);
        accepted("bureau1 1 1 1 1 1;office\na1 1 1;person x;pass1;");
        accepted(" \n bureau  1\n1 1 1 1 1 ; office a 1 1 1 ; person x ; pass 1 ; \n");
        for (String odd : new String[] {"\t", "\r", "\u000b", "\f", "\u0000", "\u00a0", "\u0085", "\u001f", "!"}) {
            error(1, "bureau 1", odd + "1 1 1 1 1;office a 1 1 1;");
        }
        for (String odd : new String[] {"`", "{", "/", ":", "<", "A", "Z", "@", "[", "\u00e1", "\u00ff"}) {
            error(1, HEAD + "office ", odd + " 1 1 1;");
            error(1, HEAD + "office a 1 1 1", odd);
        }
        error(1, "", "bureaua 1");
        error(1, "", "burea u 1");
        error(1, HEAD, "offic e a 1 1 1;");
        error(1, HEAD, "officea 1 1 1;");
        error(1, START, "joinx a;");
        error(4, START + "join ", "xa;");
        String[] good = {"bureau 1 1 1 1 1 1", ";", "office a 1 1 1", ";", "person x", ";", "join x a", ";", "pass 1", ";",
            "claim x", ";", "join x a", ";", "join y a", ";"};
        StringBuilder text = new StringBuilder();
        for (int i = 0; i < 12; i++) {
            error(1, text + (i % 2 == 0 ? "" : " "), i % 2 == 0 ? ";" : "q");
            boolean isText = i >= 4 && i % 2 == 0;
            if (isText) {
                accepted(text.toString());
            } else {
                error(1, text.toString(), "");
            }
            text.append(good[i]);
        }
        accepted(text.toString());
    }

    /** A number ends where a letter stands; the word behind it is a token of its own. */
    private static void numbersAheadOfWords() {
        Check.promise(4);
        error(1, "bureau 1", "q 1 1 1 1 1;office a 1 1 1;");
        error(1, "bureau 1 1 1 1 1 99999", "x;office a 1 1 1;");
        error(1, HEAD + "office a 1 1 1", "person x;");
        error(1, START + "pass 1", "pass 1;");
        error(2, "bureau ", "10q 1 1 1 1 1;office a 1 1 1;");
        error(2, START + "pass ", "100x;");
        error(1, "bureau ", "000001x 1 1 1 1 1;office a 1 1 1;");
    }

    private static void names() {
        Check.promise(4);
        accepted(HEAD + "office bcdefg 1 1 1;person bcdefg;join bcdefg bcdefg;pass 1;claim bcdefg;");
        error(1, HEAD + "office ", "bcdefgh 1 1 1;");
        error(1, HEAD + "office a 1 1 1;person ", "bcdefgh;");
        error(1, START + "join ", "bcdefgh a;");
        error(1, START + "join x ", "bcdefgh;");
        error(1, START + "claim ", "bcdefgh;");
        error(1, START + "witness ", "bcdefgh x;");
        error(1, START + "witness x ", "bcdefgh;");
        accepted(HEAD + "office office 1 1 1;office bureau 1 1 1;person person;person join;person pass;person claim;"
                + "join join office;join person bureau;");
        error(1, HEAD + "office a 1 1 1;person ", "witness;");
        for (String odd : new String[] {"1", ";", "", "A"}) {
            error(1, HEAD + "office ", odd);
            error(1, HEAD + "office a 1 1 1;person ", odd);
            error(1, START + "join ", odd);
            error(1, START + "join x ", odd);
            error(1, START + "claim ", odd);
            error(1, START + "witness ", odd);
            error(1, START + "witness x ", odd);
        }
    }

    // ---- codes 3 and 4

    private static void knownNames() {
        Check.promise(4);
        String offices = HEAD + "office abcdef 1 1 1;office b 1 1 1;";
        accepted(offices + "office abcdeg 1 1 1;office abcde 1 1 1;office a 1 1 1;office bb 1 1 1;");
        error(3, offices + "office ", "abcdef 1 1 1;");
        error(3, offices + "office ", "b 1 1 1;");
        String persons = offices + "person abcdef;person b;";
        accepted(persons + "person abcdeg;person abcde;person a;person bb;");
        error(3, persons + "person ", "abcdef;");
        error(3, persons + "person ", "b;");
        error(4, START + "join ", "a a;");
        error(4, START + "join ", "xx a;");
        error(4, START + "join x ", "x;");
        error(4, START + "join x ", "aa;");
        error(4, START + "claim ", "a;");
        error(4, START + "witness ", "a x;");
        error(4, START + "join y a;witness x ", "a;");
    }

    /** The name behind claim, and the second one behind witness, must be of a person with a ticket. */
    private static void latestTickets() {
        Check.promise(4);
        String start = "bureau 0 1 1 9 1 9;office a 4 1 9;office b 1 6 9;person x;person y;person z;";
        error(4, start + "claim ", "x;");
        error(4, start + "join y a;pass 1;claim ", "x;");
        error(4, start + "join y a;pass 1;witness y ", "x;");
        String both = start + "join x a;join y a;pass 1;";
        error(6, both + "claim x;witness z x", ";");
        Check.same("proven tickets", 1, accepted(both + "claim x;witness y x;").count(7));
        error(6, both + "join x b;claim x", ";");
        WaitingBureau later = accepted(both + "join x a;pass 1;claim x;");
        Check.same("whether the earlier ticket is claimed", 0, later.ticket(0, 5));
        Check.same("whether the latest ticket is claimed", 1, later.ticket(2, 5));
        error(6, both + "claim x;join x b;witness y x", ";");
    }

    // ---- code 5

    private static void numberOfOffices() {
        Check.promise(4);
        String six = HEAD + Texts.offices(6, "1 1 1");
        Check.same("six offices", 6, accepted(six).count(0));
        Check.same("five offices", 5, accepted(HEAD + Texts.offices(5, "1 1 1")).count(0));
        Check.same("one office", 1, accepted(HEAD + Texts.offices(1, "1 1 1")).count(0));
        error(1, HEAD, "");
        error(1, HEAD, "person x;");
        error(1, HEAD, "pass 1;");
        error(5, six, "office g 1 1 1;");
        error(5, six, "office");
        error(5, six, "office a 9 9 9");
        error(1, six, "offices g 1 1 1;");
    }

    private static void numberOfPersons() {
        Check.promise(4);
        String start = HEAD + Texts.offices(1, "1 1 1");
        Check.same("sixteen persons", 16, accepted(start + Texts.persons(16)).count(1));
        Check.same("fifteen persons", 15, accepted(start + Texts.persons(15)).count(1));
        error(5, start + Texts.persons(16), "person q;");
        error(5, start + Texts.persons(16), "person");
        error(5, start + Texts.persons(16), "person a");
        error(1, start + Texts.persons(16), "persons q;");
        accepted(start + Texts.persons(16) + "join p a;");
    }

    // ---- code 6

    private static void impossibleJoins() {
        Check.promise(4);
        String start = HEAD + "office a 1 6 2;office b 1 6 1;person x;person y;person z;";
        accepted(start + "join x a;join y a;");
        error(6, start + "join x a;join y a;join z a", ";");
        error(6, start + "join x b;join y b", ";join y a;");
        error(6, start + "join x a;join x a", ";");
        accepted(start + "join x a;join x b;");
        accepted(start + "join x a;pass 6;join x a;");
        Check.same("sixty tickets", 60, accepted(Texts.sixtyTickets()).count(2));
        error(6, Texts.sixtyTickets() + "join k a", ";");
    }

    private static void impossiblePasses() {
        Check.promise(4);
        Check.same("the last time", 999, accepted(START + Texts.pass(999)).count(3));
        error(6, START + Texts.pass(999) + "pass 1", ";");
        error(6, START + Texts.pass(990) + "pass 10", ";");
        error(6, START + Texts.pass(990) + "pass 99\n", ";");
        error(2, START + Texts.pass(990) + "pass ", "100;");
    }

    private static void impossibleClaims() {
        Check.promise(4);
        String start = HEAD + "office a 1 6 2;person x;join x a;";
        error(6, start + "claim x", ";");
        error(6, start + "pass 5;claim x", ";");
        accepted(start + "pass 6;claim x;");
        error(6, start + "pass 6;claim x;claim x", ";");
    }

    private static void impossibleWitnesses() {
        Check.promise(4);
        String start = "bureau 0 1 2 9 1 9;office a 4 2 9;" + Texts.persons(5) + Texts.joins(5, "a") + "pass 4;";
        error(6, start + "witness b a", ";");
        error(6, start + "claim a;witness b a;witness c a", ";");
        error(6, start + "claim a;witness a a", ";");
        accepted(start + "claim a;witness b a;");
        String three = start.replace("bureau 0 1", "bureau 0 3");
        error(6, three + "claim a;witness b a;witness b a", ";");
        error(6, start.replace("bureau 0 1 2", "bureau 0 1 3") + "claim a;witness b a", ";");
        accepted(start + "claim b;claim c;claim d;witness a b;witness a c;witness a d;");
        error(6, start + "claim b;claim c;claim d;claim e;witness a b;witness a c;witness a d;witness a e", ";");
        error(6, three + "claim a;claim b;witness a b;witness b a", ";");
        accepted(three + "claim a;claim b;witness a b;witness c a;witness c b;pass 16;witness b a;");
    }

    // ---- several errors

    private static void firstErrorAndLowestCode() {
        Check.promise(4);
        String six = HEAD + Texts.offices(6, "1 1 1");
        error(1, six + "person x;", "office g 1 1 1;");
        error(1, six + "person x;pass 1;", "office g 1 1 1;");
        String sixteen = HEAD + Texts.offices(1, "1 1 1") + Texts.persons(16);
        error(1, sixteen + "pass 1;", "person q;");
        error(1, sixteen, "office b 1 1 1;");
        error(1, START + "join x a;join x a ", "a;");
        error(1, START + "claim ", "xxxxxxx;");
        error(1, START + "pass ", "100000;");
        error(2, "bureau ", "10 4 0 0 0 100000");
        error(2, HEAD + "office a ", "5 7 21");
        error(3, START + "person ", "x 1;");
        error(3, HEAD + "office a 1 1 1;office ", "a 9 9 9;");
        error(4, START + "join ", "q q;");
        error(6, START + "join x a;join x a", ";?");
        error(6, START + "join x a;join y a", ";join q q;");
        error(4, START + "join ", "q a;join x a;join x a;");
        error(1, START, "?person x;join q a;");
        error(1, START + "join x a;join x a ", "?;");
        error(1, START + Texts.pass(999) + "pass 1 ", "pass 1;");
        error(1, START + Texts.pass(999) + "pass 1", "");
        error(1, START + "join x a;claim x ", "claim x;");
        error(1, START + "join x a;claim x", "");
        error(1, START + "join x a;witness y x ", "witness y x;");
        error(1, START + "join x a;witness y x", "");
    }

    // ---- find

    private static void find() {
        Check.promise(7);
        String start = HEAD + "office bcdefg 1 1 1;office b 1 1 1;" + Texts.persons(15) + "person bcdefg;";
        String[] contents = {"bcdefg", "b", "a", "p", "bcdef", "bcdefgh", "bcdefh", "", " b", "b ", "B", "b\u00e9", "b1"};
        int[] offices = {0, 1, -1, -1, -1, -1, -1, -1, -1, -1, -1, -1, -1};
        int[] persons = {15, 1, 0, -1, -1, -1, -1, -1, -1, -1, -1, -1, -1};
        for (int i = 0; i < contents.length; i++) {
            found(start, contents[i], true, offices[i]);
            found(start, contents[i], false, persons[i]);
        }
        WaitingBureau all = Check.loaded("bureau 0 0 1 1 1 0;" + Texts.offices(6, "1 1 1") + Texts.persons(16));
        for (int round = 0; round < 2; round++) {
            for (int number = 0; number < 17; number++) {
                Check.put(all, Texts.name(number));
                Check.same("find(true) of office " + number, number < 6 ? number : "throws.NoSuchElementException",
                        Check.outcome(() -> all.find(true)));
                Check.put(all, Texts.name(number));
                Check.same("find(false) of person " + number, number < 16 ? number : "throws.NoSuchElementException",
                        Check.outcome(() -> all.find(false)));
            }
            all.deposit(1 + round);
            all.undo();
        }
        WaitingBureau full = Check.loaded(start);
        Check.put(full, "b" + " ".repeat(999));
        Check.noElement("find() of 1000 bytes", () -> full.find(true));
        Check.outOfBounds("truncate(1) after find() of 1000 bytes", () -> full.truncate(1));
    }

    private static void found(String start, String content, boolean isOffice, int due) {
        WaitingBureau bureau = Check.loaded(start);
        Check.put(bureau, content);
        String call = "find(" + isOffice + ") of " + content;
        Object answer = due < 0 ? "throws." + NoSuchElementException.class.getSimpleName() : (Object) due;
        Check.same(call, answer, Check.outcome(() -> bureau.find(isOffice)));
        Check.outOfBounds("truncate(1) after " + call, () -> bureau.truncate(1));
        Check.same("persons after " + call, 16, bureau.count(1));
    }
}
