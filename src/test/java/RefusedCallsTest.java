import java.util.NoSuchElementException;

/** Calls that are refused throw what the document names, and change nothing but what it names. */
public final class RefusedCallsTest {
    private static final Class<?> BOUNDS = IndexOutOfBoundsException.class;
    private static final Class<?> ARGUMENT = IllegalArgumentException.class;
    private static final Class<?> STATE = IllegalStateException.class;
    private static final Class<?> ELEMENT = NoSuchElementException.class;
    private static final int LEAST = Integer.MIN_VALUE;
    private static final int GREATEST = Integer.MAX_VALUE;

    interface Use {
        void on(WaitingBureau bureau);
    }

    private static Snapshot.Maker maker;
    private static String before;

    private RefusedCallsTest() {
    }

    public static void main(String[] args) {
        text();
        loads();
        emptiedBuffers();
        reports();
        witnessReports();
        foretold();
        output();
        ticketChanges();
        tokenChanges();
        officeChanges();
        settingsAndSlots();
        fullBuffer();
        sixtyTickets();
        sixteenPersons();
        lastTime();
        fullFund();
        reasons();
        nothingToUndo();
        Check.end("RefusedCallsTest");
    }

    // ---- how a refused call is tested

    private static void with(Snapshot.Maker newMaker) {
        maker = newMaker;
        before = Snapshot.of(newMaker);
    }

    private static void refused(int promise, String call, Class<?> due, Use use) {
        Check.promise(promise);
        Check.fails(call, due, () -> use.on(maker.make()));
        String after = Snapshot.of(() -> tried(maker, use));
        Check.same("whether all stays with the refused call " + call, true, before.equals(after));
    }

    private static WaitingBureau tried(Snapshot.Maker maker, Use use) {
        WaitingBureau bureau = maker.make();
        Check.outcome(() -> {
            use.on(bureau);
            return null;
        });
        return bureau;
    }

    /**
     * Eight tickets: two served and proven or claimed, two left, four waiting; held, offered and paid tokens; a closed
     * office c and a full one b; an error, an output, both slots, more than eight changes, and a name in the buffer.
     */
    private static WaitingBureau busy(String faulty) {
        WaitingBureau bureau = Check.loaded("bureau 0 1 1 4 3 4;office a 1 2 6;office b 1 6 3;office c 1 1 6;"
                + "person x;person y;person z;person u;join x a;join y a;join z a;join z b;join u c;pass 5;"
                + "claim x;claim y;witness x y;");
        Check.put(bureau, faulty);
        Check.outcome(bureau::load);
        bureau.save(0);
        bureau.merge(2, 1);
        bureau.offer(1, 2);
        bureau.give(1, 0, 1);
        bureau.join(0, 1);
        bureau.join(1, 1);
        bureau.save(1);
        bureau.leave(2);
        bureau.join(2, 0);
        bureau.set(4, 5);
        bureau.deposit(1);
        bureau.write(1);
        Check.put(bureau, "z");
        return bureau;
    }

    // ---- the text

    private static void text() {
        with(() -> busy("wrong"));
        for (int length : new int[] {-1, 2, LEAST, GREATEST}) {
            refused(3, "truncate(" + length + ")", BOUNDS, b -> b.truncate(length));
        }
    }

    /** A load() that throws leaves all but the buffer, the error code and the position, wherever the error is. */
    private static void loads() {
        String good = "bureau 1 2 3 4 5 6;office q 1 1 1;person k;person x;";
        String[] faulty = {"", "wrong", good + "join x q;pass 9;claim x;?", good + "pass 100;", good + "person k;",
            good + "join x a;", good + "claim x;", good + Texts.persons(15), good + "join x q;join k q;"};
        for (String one : faulty) {
            with(() -> {
                WaitingBureau bureau = busy(one);
                bureau.truncate(0);
                return bureau;
            });
            Snapshot.Maker due = maker;
            maker = () -> busy("wrong");
            refused(4, "load() of " + one, ARGUMENT, b -> {
                Check.put(b, one);
                b.load();
            });
            maker = due;
        }
    }

    /** The buffer is empty afterwards, and nothing else is changed. */
    private static void emptiedBuffers() {
        with(() -> {
            WaitingBureau bureau = busy("wrong");
            bureau.truncate(0);
            return bureau;
        });
        for (String content : new String[] {"", "abcdefg", "x ", "\u00f8"}) {
            refused(7, "find(true) of " + content, ELEMENT, b -> putAndFind(b, content, true));
            refused(7, "find(false) of " + content, ELEMENT, b -> putAndFind(b, content, false));
            refused(44, "addPerson() of " + content, ARGUMENT, b -> putAndAdd(b, content));
        }
        refused(7, "find(true) of a person", ELEMENT, b -> putAndFind(b, "x", true));
        refused(7, "find(false) of an office", ELEMENT, b -> putAndFind(b, "a", false));
        refused(44, "addPerson() of x again", STATE, b -> putAndAdd(b, "x"));
        refused(44, "addPerson() of the last one again", STATE, b -> putAndAdd(b, "u"));
    }

    private static void putAndFind(WaitingBureau bureau, String content, boolean isOffice) {
        Check.put(bureau, content);
        bureau.find(isOffice);
    }

    private static void putAndAdd(WaitingBureau bureau, String content) {
        Check.put(bureau, content);
        bureau.addPerson();
    }

    // ---- reports

    private static void reports() {
        with(() -> busy("wrong"));
        for (int odd : new int[] {-1, 1000, LEAST, GREATEST}) {
            refused(8, "count(" + odd + ")", ARGUMENT, b -> b.count(odd));
            refused(9, "setting(" + odd + ")", ARGUMENT, b -> b.setting(odd));
            refused(10, "office(" + odd + ", 6)", BOUNDS, b -> b.office(odd, 6));
            refused(10, "office(0, " + odd + ")", ARGUMENT, b -> b.office(0, odd));
            refused(11, "queued(" + odd + ", 0)", BOUNDS, b -> b.queued(odd, 0));
            refused(11, "queued(1, " + odd + ")", BOUNDS, b -> b.queued(1, odd));
            refused(12, "person(" + odd + ", 10)", BOUNDS, b -> b.person(odd, 10));
            refused(12, "person(0, " + odd + ")", ARGUMENT, b -> b.person(0, odd));
            refused(13, "ticket(" + odd + ", 11)", BOUNDS, b -> b.ticket(odd, 11));
            refused(13, "ticket(0, " + odd + ")", ARGUMENT, b -> b.ticket(0, odd));
            refused(14, "token(" + odd + ", 5)", BOUNDS, b -> b.token(odd, 5));
            refused(14, "token(0, " + odd + ")", ARGUMENT, b -> b.token(0, odd));
            refused(15, "isPaidFor(" + odd + ", 1000)", BOUNDS, b -> b.isPaidFor(odd, 1000));
            refused(15, "isPaidFor(0, " + odd + ")", ARGUMENT, b -> b.isPaidFor(0, odd));
        }
    }

    private static void witnessReports() {
        with(() -> busy("wrong"));
        for (int odd : new int[] {-1, 8, LEAST, GREATEST}) {
            refused(16, "whyNot(" + odd + ", 0)", BOUNDS, b -> b.whyNot(odd, 0));
            refused(16, "whyNot(0, " + odd + ")", BOUNDS, b -> b.whyNot(0, odd));
            refused(17, "common(" + odd + ", 0)", BOUNDS, b -> b.common(odd, 0));
            refused(17, "common(0, " + odd + ")", BOUNDS, b -> b.common(0, odd));
            refused(18, "witnessFor(" + odd + ", 99)", BOUNDS, b -> b.witnessFor(odd, 99));
            refused(18, "witnessFor(0, 99)", ELEMENT, b -> b.witnessFor(0, 99));
            refused(19, "isWitness(" + odd + ", 0)", BOUNDS, b -> b.isWitness(odd, 0));
            refused(19, "isWitness(0, " + odd + ")", BOUNDS, b -> b.isWitness(0, odd));
            refused(20, "worth(" + odd + ")", BOUNDS, b -> b.worth(odd));
        }
    }

    private static void foretold() {
        with(() -> busy("wrong"));
        for (int odd : new int[] {-1, 201, LEAST, GREATEST}) {
            refused(26, "servedIn(" + odd + ")", BOUNDS, b -> b.servedIn(odd));
            refused(27, "queueIn(" + odd + ", 201)", BOUNDS, b -> b.queueIn(odd, 201));
            refused(27, "queueIn(0, " + odd + ")", ARGUMENT, b -> b.queueIn(0, odd));
            refused(28, "tokensIn(" + odd + ")", ARGUMENT, b -> b.tokensIn(odd));
            refused(29, "servedIf(" + odd + ")", BOUNDS, b -> b.servedIf(odd));
            refused(31, "longestIfMerged(2, " + odd + ")", BOUNDS, b -> b.longestIfMerged(2, odd));
            refused(31, "longestIfMerged(" + odd + ", 2)", BOUNDS, b -> b.longestIfMerged(odd, 2));
        }
        refused(26, "servedIn(2) of what left", ELEMENT, b -> b.servedIn(2));
        refused(29, "servedIf(2) of a closed one", ELEMENT, b -> b.servedIf(2));
        refused(31, "longestIfMerged(0, 0)", STATE, b -> b.longestIfMerged(0, 0));
        refused(31, "longestIfMerged(0, 2)", STATE, b -> b.longestIfMerged(0, 2));
        refused(31, "longestIfMerged(2, 0)", STATE, b -> b.longestIfMerged(2, 0));
    }

    private static void output() {
        with(() -> busy("wrong"));
        for (int odd : new int[] {-1, 200, LEAST, GREATEST}) {
            refused(32, "write(" + odd + ")", BOUNDS, b -> b.write(odd));
            refused(33, "outputByte(" + odd + ")", BOUNDS, b -> b.outputByte(odd));
        }
    }

    // ---- changes

    private static void ticketChanges() {
        with(() -> busy("wrong"));
        for (int odd : new int[] {-1, 8, LEAST, GREATEST}) {
            refused(34, "join(" + odd + ", 2)", BOUNDS, b -> b.join(odd, 2));
            refused(34, "join(0, " + odd + ")", BOUNDS, b -> b.join(0, odd));
            refused(35, "leave(" + odd + ")", BOUNDS, b -> b.leave(odd));
            refused(37, "claim(" + odd + ")", BOUNDS, b -> b.claim(odd));
            refused(38, "witness(" + odd + ", 0)", BOUNDS, b -> b.witness(odd, 0));
            refused(38, "witness(0, " + odd + ")", BOUNDS, b -> b.witness(0, odd));
        }
        refused(34, "join(0, 2) of a closed office", STATE, b -> b.join(0, 2));
        refused(34, "join(3, 1) of a full queue", STATE, b -> b.join(3, 1));
        refused(34, "join(2, 0) of one who waits there", STATE, b -> b.join(2, 0));
        refused(35, "leave(0) of what is served", STATE, b -> b.leave(0));
        refused(35, "leave(2) of what left", STATE, b -> b.leave(2));
        for (int hours : new int[] {0, 100, -1, LEAST, GREATEST}) {
            refused(36, "pass(" + hours + ")", ARGUMENT, b -> b.pass(hours));
        }
        refused(37, "claim(0) of what is claimed", STATE, b -> b.claim(0));
        refused(37, "claim(1) of what is proven", STATE, b -> b.claim(1));
        refused(37, "claim(2) of what left", STATE, b -> b.claim(2));
        refused(37, "claim(3) of what waits", STATE, b -> b.claim(3));
        refused(38, "witness(4, 0) of what is not claimed", STATE, b -> b.witness(4, 0));
        refused(38, "witness(1, 2) of what is proven", STATE, b -> b.witness(1, 2));
        refused(38, "witness(0, 0) of an own ticket", STATE, b -> b.witness(0, 0));
        refused(38, "witness(0, 3) of who waited elsewhere", STATE, b -> b.witness(0, 3));
        refused(38, "witness(0, 1) of who was helped", STATE, b -> b.witness(0, 1));
    }

    private static void tokenChanges() {
        with(() -> busy("wrong"));
        for (int odd : new int[] {-1, 4, LEAST, GREATEST}) {
            refused(39, "give(" + odd + ", 0, 0)", BOUNDS, b -> b.give(odd, 0, 0));
            refused(39, "give(0, " + odd + ", 0)", BOUNDS, b -> b.give(0, odd, 0));
            refused(40, "offer(" + odd + ", 0)", BOUNDS, b -> b.offer(odd, 0));
        }
        for (int many : new int[] {0, -1, 201, LEAST, GREATEST}) {
            refused(39, "give(0, 0, " + many + ")", ARGUMENT, b -> b.give(0, 0, many));
            refused(40, "offer(0, " + many + ")", ARGUMENT, b -> b.offer(0, many));
        }
        refused(39, "give(0, 0, 1) to the same", STATE, b -> b.give(0, 0, 1));
        refused(39, "give(0, 1, 2) of one more than held", STATE, b -> b.give(0, 1, 2));
        refused(39, "give(2, 1, 1) of none held", STATE, b -> b.give(2, 1, 1));
        refused(39, "give(0, 1, 200)", STATE, b -> b.give(0, 1, 200));
        refused(40, "offer(0, 2) of one more than held", STATE, b -> b.offer(0, 2));
        refused(40, "offer(2, 1) of none held", STATE, b -> b.offer(2, 1));
        refused(40, "offer(0, 200)", STATE, b -> b.offer(0, 200));
        for (int amount : new int[] {0, -1, 10000, LEAST, GREATEST}) {
            refused(41, "deposit(" + amount + ")", ARGUMENT, b -> b.deposit(amount));
        }
    }

    private static void officeChanges() {
        with(() -> busy("wrong"));
        for (int odd : new int[] {-1, 3, LEAST, GREATEST}) {
            refused(42, "merge(" + odd + ", 2)", BOUNDS, b -> b.merge(odd, 2));
            refused(42, "merge(2, " + odd + ")", BOUNDS, b -> b.merge(2, odd));
            refused(43, "reopen(" + odd + ")", BOUNDS, b -> b.reopen(odd));
        }
        refused(42, "merge(0, 0)", STATE, b -> b.merge(0, 0));
        refused(42, "merge(2, 2)", STATE, b -> b.merge(2, 2));
        refused(42, "merge(0, 2) with a closed one", STATE, b -> b.merge(0, 2));
        refused(42, "merge(2, 0) of a closed one", STATE, b -> b.merge(2, 0));
        refused(43, "reopen(0) of an open one", STATE, b -> b.reopen(0));
    }

    private static void settingsAndSlots() {
        with(() -> busy("wrong"));
        int[] first = {0, 0, 1, 1, 1};
        int[] last = {9, 3, 9, 20, 99};
        for (int i = 0; i < 5; i++) {
            int what = i;
            for (int value : new int[] {first[i] - 1, last[i] + 1, LEAST, GREATEST}) {
                refused(45, "set(" + i + ", " + value + ")", ARGUMENT, b -> b.set(what, value));
            }
        }
        for (int odd : new int[] {-1, 5, LEAST, GREATEST}) {
            refused(45, "set(" + odd + ", 1)", ARGUMENT, b -> b.set(odd, 1));
        }
        for (int odd : new int[] {-1, 2, LEAST, GREATEST}) {
            refused(47, "save(" + odd + ")", BOUNDS, b -> b.save(odd));
            refused(48, "restore(" + odd + ")", BOUNDS, b -> b.restore(odd));
        }
    }

    // ---- limits

    private static void fullBuffer() {
        for (int length : new int[] {981, 1000}) {
            String content = "bureau 0 0 1 1 1 7;office q 1 1 1;" + " ".repeat(length - 34);
            with(() -> {
                WaitingBureau bureau = new WaitingBureau();
                bureau.deposit(1);
                Check.put(bureau, content);
                return bureau;
            });
            refused(2, "append to " + length + " bytes", STATE, b -> b.append(0, 0, 0, 0, 0));
            Check.promise(2);
            WaitingBureau loaded = tried(maker, b -> b.append(0, 0, 0, 0, 0));
            Check.same("load() after the refused append()", 0, loaded.load());
            Check.same("FUND of the text that stayed", 7, loaded.count(11));
        }
    }

    private static void sixtyTickets() {
        with(() -> {
            WaitingBureau bureau = Check.loaded(Texts.sixtyTickets());
            bureau.deposit(5);
            bureau.save(1);
            return bureau;
        });
        refused(34, "join of the 61st ticket", STATE, b -> b.join(10, 0));
        refused(34, "join of the 61st ticket by nobody", BOUNDS, b -> b.join(11, 0));
    }

    private static void sixteenPersons() {
        with(() -> {
            WaitingBureau bureau = Check.loaded("bureau 0 0 1 1 1 7;" + Texts.offices(1, "1 1 1") + Texts.persons(16));
            bureau.deposit(1);
            return bureau;
        });
        refused(44, "addPerson() of the 17th", STATE, b -> putAndAdd(b, "new"));
        refused(44, "addPerson() of the 17th without a name", ARGUMENT, b -> putAndAdd(b, "newnews"));
        refused(44, "addPerson() of one of the 16", STATE, b -> putAndAdd(b, "p"));
    }

    private static void lastTime() {
        with(() -> {
            WaitingBureau bureau = Check.loaded("bureau 0 0 1 9 1 7;" + Texts.offices(1, "1 6 6") + Texts.persons(2)
                    + Texts.pass(990) + "join a a;" + Texts.pass(6) + "claim a;join b a;" + Texts.pass(2));
            bureau.pass(1);
            return bureau;
        });
        refused(36, "pass(1) at 999", STATE, b -> b.pass(1));
        refused(36, "pass(99) at 999", STATE, b -> b.pass(99));
        refused(36, "pass(100) at 999", ARGUMENT, b -> b.pass(100));
    }

    private static void fullFund() {
        with(() -> {
            WaitingBureau bureau = Check.loaded("bureau 0 0 1 9 99 0;" + Texts.offices(1, "1 6 6") + Texts.persons(1)
                    + "join a a;pass 6;claim a;");
            for (int i = 0; i < 10; i++) {
                bureau.deposit(9999);
            }
            return bureau;
        });
        refused(41, "deposit(10) at 99990", STATE, b -> b.deposit(10));
        refused(41, "deposit(9999) at 99990", STATE, b -> b.deposit(9999));
        refused(41, "deposit(10000) at 99990", ARGUMENT, b -> b.deposit(10000));
    }

    /** The reasons 4 and 6, which busy() does not have. */
    private static void reasons() {
        with(() -> {
            WaitingBureau bureau = Check.loaded("bureau 0 3 1 9 1 7;" + Texts.offices(1, "4 2 9") + Texts.persons(5)
                    + Texts.joins(5, "a") + "pass 4;" + Texts.claims(5));
            bureau.witness(1, 0);
            bureau.witness(2, 0);
            bureau.witness(3, 0);
            return bureau;
        });
        refused(38, "witness(3, 0) of who is a witness", STATE, b -> b.witness(3, 0));
        refused(38, "witness(4, 0) for the fourth time in a week", STATE, b -> b.witness(4, 0));
    }

    private static void nothingToUndo() {
        with(() -> {
            WaitingBureau bureau = busy("wrong");
            bureau.restore(0);
            return bureau;
        });
        refused(46, "undo() after restore()", STATE, WaitingBureau::undo);
        with(() -> Check.loaded("bureau 0 3 1 9 1 7;office a 1 1 1;person x;join x a;"));
        refused(46, "undo() after load()", STATE, WaitingBureau::undo);
        refused(48, "restore(0) of an empty slot", ELEMENT, b -> b.restore(0));
        refused(48, "restore(1) of an empty slot", ELEMENT, b -> b.restore(1));
    }
}
