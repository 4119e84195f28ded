/** Promises 34 to 36 and 39 to 48: changes, undoing, saving and restoring. */
public final class ChangeTest {
    private ChangeTest() {
    }

    public static void main(String[] args) {
        join();
        joinAtTheLimits();
        leave();
        pass();
        hourInItsOrder();
        weeklyTokens();
        give();
        offer();
        deposit();
        merge();
        mergeKeepsTheOrder();
        reopen();
        addPerson();
        set();
        undo();
        undoOfAnOffer();
        undoOfAWitness();
        usedRowsBeginAnew();
        save();
        restore();
        Check.end("ChangeTest");
    }

    private static void join() {
        Check.promise(34);
        WaitingBureau bureau = Check.loaded("bureau 1 1 2 5 3 0;office a 1 6 2;office b 1 6 2;person x;person y;person z;");
        Check.same("join(1, 0)", 0, bureau.join(1, 0));
        bureau.pass(1);
        Check.same("join(0, 0)", 1, bureau.join(0, 0));
        Check.same("JOINED", 1, bureau.ticket(1, 2));
        Check.same("its place", 1, bureau.ticket(1, 10));
        Check.badState("join of a full queue", () -> bureau.join(2, 0));
        Check.same("join(0, 1) of another office", 2, bureau.join(0, 1));
        Check.badState("join(0, 1) of one who waits there", () -> bureau.join(0, 1));
        bureau.merge(1, 0);
        Check.badState("join of a closed office", () -> bureau.join(2, 1));
        Check.same("tickets", 3, bureau.count(2));
        Check.outOfBounds("join(3, 1)", () -> bureau.join(3, 1));
        Check.outOfBounds("join(-1, 0)", () -> bureau.join(-1, 0));
        Check.outOfBounds("join(0, 2)", () -> bureau.join(0, 2));
        Check.outOfBounds("join(0, -1)", () -> bureau.join(0, -1));
    }

    private static void joinAtTheLimits() {
        Check.promise(34);
        WaitingBureau bureau = Check.loaded("bureau 1 1 2 5 3 0;office a 4 1 20;person x;person y;person z;");
        for (int ticket = 0; ticket < 60; ticket++) {
            Check.same("join", ticket, bureau.join(ticket % 3, 0));
            if (ticket % 3 == 2 && ticket < 59) {
                bureau.pass(1);
            }
        }
        bureau.pass(1);
        Check.badState("join of the 61st ticket", () -> bureau.join(0, 0));
        Check.same("tickets", 60, bureau.count(2));
        // By a merger a queue can be longer than its LIMIT.
        WaitingBureau merged = Check.loaded("bureau 1 1 2 5 3 0;office a 1 6 1;office b 1 6 1;person x;person y;person z;"
                + "join x a;join y b;");
        Check.same("merge above LIMIT", 2, merged.merge(0, 1));
        Check.badState("join of a queue above its LIMIT", () -> merged.join(2, 1));
    }

    private static void leave() {
        Check.promise(35);
        WaitingBureau bureau = new WaitingBureau();
        bureau.join(0, 0);
        bureau.join(1, 0);
        bureau.join(2, 0);
        Check.same("leave(1) at once", 0, bureau.leave(1));
        Check.same("queued(0, 1)", 2, bureau.queued(0, 1));
        bureau.pass(3);
        Check.same("leave(2)", 3, bureau.leave(2));
        Check.same("its state", WaitingBureau.LEFT, bureau.ticket(2, 4));
        Check.same("its ENDED", 3, bureau.ticket(2, 3));
        Check.badState("leave(2) again", () -> bureau.leave(2));
        Check.badState("leave(0) of a served one", () -> bureau.leave(0));
        bureau.pass(1);
        Check.same("join(2, 0) again", 3, bureau.join(2, 0));
        bureau.pass(1);
        Check.same("leave(3) one hour later", 1, bureau.leave(3));
        Check.outOfBounds("leave(4)", () -> bureau.leave(4));
        Check.outOfBounds("leave(-1)", () -> bureau.leave(-1));
    }

    private static void pass() {
        Check.promise(36);
        WaitingBureau bureau = Check.loaded(
                "bureau 1 1 2 5 3 0;office a 2 3 6;office b 1 2 6;person x;person y;person z;");
        for (int person = 0; person < 3; person++) {
            bureau.join(person, 0);
            bureau.join(person, 1);
        }
        Check.same("pass(1)", 0, bureau.pass(1));
        Check.same("pass(2)", 3, bureau.pass(2));
        Check.same("ENDED of the first one of b", 2, bureau.ticket(1, 3));
        Check.same("ENDED of the second one of a", 3, bureau.ticket(2, 3));
        Check.same("pass(99)", 3, bureau.pass(99));
        Check.badArgument("pass(0)", () -> bureau.pass(0));
        Check.badArgument("pass(100)", () -> bureau.pass(100));
        Check.badArgument("pass(-1)", () -> bureau.pass(-1));
        Check.badArgument("pass(greatest)", () -> bureau.pass(Integer.MAX_VALUE));
        for (int i = 0; i < 9; i++) {
            bureau.pass(99);
        }
        Check.badState("pass(7) at 993", () -> bureau.pass(7));
        Check.badArgument("pass(100) at 993", () -> bureau.pass(100));
        Check.same("pass(6) at 993", 0, bureau.pass(6));
        Check.badState("pass(1) at 999", () -> bureau.pass(1));
        Check.same("time", 999, bureau.count(3));
    }

    /** At 20 the tokens are made after serving and with the count of the new week, then they are settled. */
    private static void hourInItsOrder() {
        Check.promise(36);
        WaitingBureau bureau = Check.loaded("bureau 0 0 1 2 3 0;office a 1 5 6;person x;person y;join x a;join y a;"
                + "pass 19;claim x;claim y;");
        Check.same("tokens at 19", 4, bureau.count(8));
        bureau.set(4, 99);
        bureau.offer(0, 1);
        bureau.deposit(98);
        bureau.set(4, 98);
        Check.same("paid tokens at 19", 0, bureau.count(10));
        bureau.join(0, 0);
        Check.same("pass(1) to 20", 1, bureau.pass(1));
        Check.same("tokens at 20", 8, bureau.count(8));
        Check.same("paid tokens at 20", 1, bureau.count(10));
        Check.same("tokens of x in this week", 2, bureau.person(0, 7));
        Check.same("FUND", 0, bureau.count(11));
        Check.same("PURSE", 98, bureau.person(0, 0));
    }

    private static void weeklyTokens() {
        Check.promise(36);
        WaitingBureau bureau = Check.loaded("bureau 0 0 1 3 3 0;office a 1 4 6;office b 1 5 6;person x;"
                + "pass 1;join x a;join x b;pass 4;");
        Check.same("claim(1) of hours 1 to 4", 3, bureau.claim(1));
        Check.same("claim(0) at CAP", 0, bureau.claim(0));
        bureau.set(3, 1);
        bureau.pass(15);
        Check.same("tokens with CAP 1", 4, bureau.count(8));
        Check.same("the ticket of the token of the week", 1, bureau.token(3, 1));
        Check.same("the hour of the token of the week", 4, bureau.token(3, 2));
        WaitingBureau byNumber = Check.loaded("bureau 0 0 1 1 3 0;office a 1 4 6;office b 1 5 6;person x;person y;"
                + "join y a;join x b;join x a;pass 12;claim x;");
        byNumber.claim(1);
        byNumber.claim(0);
        byNumber.pass(8);
        Check.same("the ticket of the first token of the week", 0, byNumber.token(2, 1));
        Check.same("the ticket of the second token of the week", 1, byNumber.token(3, 1));
    }

    /** x has 6 tokens, y has 4. */
    private static WaitingBureau rich() {
        return Check.loaded("bureau 0 0 1 9 10 25;office a 1 6 6;office b 1 4 6;person x;person y;person z;"
                + "join x a;join y b;pass 6;claim y;claim x;");
    }

    private static void give() {
        Check.promise(39);
        WaitingBureau bureau = rich();
        Check.same("give(0, 1, 2)", 6, bureau.give(0, 1, 2));
        Check.same("owner of 4", 1, bureau.token(4, 0));
        Check.same("owner of 5", 1, bureau.token(5, 0));
        Check.same("owner of 6", 0, bureau.token(6, 0));
        Check.same("give(1, 2, 5)", 5, bureau.give(1, 2, 5));
        Check.same("owner of 4", 2, bureau.token(4, 0));
        Check.same("owner of 5", 1, bureau.token(5, 0));
        bureau.offer(0, 3);
        Check.badState("give of offered ones", () -> bureau.give(0, 1, 2));
        Check.badState("give(0, 0, 1)", () -> bureau.give(0, 0, 1));
        Check.badState("give(1, 0, 2) of too many", () -> bureau.give(1, 0, 2));
        Check.badState("give(1, 0, 200)", () -> bureau.give(1, 0, 200));
        Check.badArgument("give(0, 0, 0)", () -> bureau.give(0, 0, 0));
        Check.badArgument("give(0, 1, 201)", () -> bureau.give(0, 1, 201));
        Check.badArgument("give(0, 1, -1)", () -> bureau.give(0, 1, -1));
        Check.outOfBounds("give(3, 0, 0)", () -> bureau.give(3, 0, 0));
        Check.outOfBounds("give(0, 3, 0)", () -> bureau.give(0, 3, 0));
        Check.outOfBounds("give(-1, 0, 1)", () -> bureau.give(-1, 0, 1));
        Check.outOfBounds("give(0, -1, 1)", () -> bureau.give(0, -1, 1));
        Check.same("changes", 3, bureau.count(12));
    }

    private static void offer() {
        Check.promise(40);
        WaitingBureau bureau = rich();
        Check.same("offer(0, 3) with a fund for two", 2, bureau.offer(0, 3));
        Check.same("state of 4", WaitingBureau.PAID, bureau.token(4, 3));
        Check.same("state of 6", WaitingBureau.OFFERED, bureau.token(6, 3));
        Check.same("state of 7", WaitingBureau.HELD, bureau.token(7, 3));
        Check.same("PURSE of x", 20, bureau.person(0, 0));
        Check.same("FUND", 5, bureau.count(11));
        bureau.set(4, 1);
        Check.same("offer(1, 1) that pays others, too", 2, bureau.offer(1, 1));
        Check.same("PURSE of x", 21, bureau.person(0, 0));
        Check.same("PURSE of y", 1, bureau.person(1, 0));
        Check.badState("offer(1, 4)", () -> bureau.offer(1, 4));
        Check.badState("offer(2, 200)", () -> bureau.offer(2, 200));
        Check.badArgument("offer(1, 0)", () -> bureau.offer(1, 0));
        Check.badArgument("offer(1, 201)", () -> bureau.offer(1, 201));
        Check.outOfBounds("offer(3, 0)", () -> bureau.offer(3, 0));
        Check.outOfBounds("offer(-1, 1)", () -> bureau.offer(-1, 1));
        WaitingBureau row = rich();
        row.set(4, 99);
        row.offer(0, 2);
        row.offer(1, 1);
        row.offer(0, 1);
        row.give(0, 2, 1);
        int[] due = {4, 5, 0, 6};
        for (int place = 0; place < 4; place++) {
            Check.same("place of " + due[place], place, row.token(due[place], 4));
        }
        row.deposit(9999);
        Check.same("offered tokens", 0, row.count(9));
        Check.same("FUND", 25 + 9999 - 4 * 99, row.count(11));
        Check.same("PURSE of x", 297, row.person(0, 0));
    }

    private static void deposit() {
        Check.promise(41);
        WaitingBureau bureau = rich();
        bureau.offer(0, 6);
        Check.same("deposit(4)", 9, bureau.deposit(4));
        Check.same("deposit(1), enough for one", 0, bureau.deposit(1));
        Check.same("deposit(9999)", 9969, bureau.deposit(9999));
        Check.badArgument("deposit(0)", () -> bureau.deposit(0));
        Check.badArgument("deposit(10000)", () -> bureau.deposit(10000));
        Check.badArgument("deposit(-5)", () -> bureau.deposit(-5));
        for (int i = 0; i < 9; i++) {
            bureau.deposit(9999);
        }
        Check.badState("deposit above 99999", () -> bureau.deposit(99999 - 9969 - 9 * 9999 + 1));
        Check.same("deposit up to 99999", 99999, bureau.deposit(99999 - 9969 - 9 * 9999));
        Check.badState("deposit(1) at 99999", () -> bureau.deposit(1));
        Check.badArgument("deposit(10000) at 99999", () -> bureau.deposit(10000));
        WaitingBureau full = Check.loaded("bureau 0 0 1 9 99 50;office a 1 1 6;person x;join x a;pass 1;claim x;");
        full.offer(0, 1);
        Check.same("deposit that pays", 0, full.deposit(49));
        WaitingBureau nearly = Check.loaded("bureau 0 0 1 9 1 99999;office a 1 1 6;person x;join x a;pass 1;claim x;");
        Check.badState("deposit above 99999 ahead of settling", () -> nearly.deposit(1));
    }

    private static void merge() {
        Check.promise(42);
        WaitingBureau bureau = Check.loaded("bureau 1 1 2 5 3 0;office a 1 6 6;office b 1 6 6;office c 1 6 6;"
                + "person x;person y;person z;person u;join x a;join y b;pass 1;join y a;join x b;join z b;pass 1;join u a;");
        Check.same("merge(0, 1)", 4, bureau.merge(0, 1));
        int[] due = {1, 0, 4, 5};
        for (int place = 0; place < 4; place++) {
            Check.same("queued(1, " + place + ")", due[place], bureau.queued(1, place));
            Check.same("office of " + due[place], 1, bureau.ticket(due[place], 1));
        }
        for (int ticket = 2; ticket <= 3; ticket++) {
            Check.same("state of " + ticket, WaitingBureau.LEFT, bureau.ticket(ticket, 4));
            Check.same("ENDED of " + ticket, 2, bureau.ticket(ticket, 3));
            Check.same("office of " + ticket, 1, bureau.ticket(ticket, 1));
        }
        Check.same("whether a is open", 0, bureau.office(0, 3));
        Check.same("queue of a", 0, bureau.office(0, 4));
        Check.badState("merge(0, 1) again", () -> bureau.merge(0, 1));
        Check.badState("merge(1, 0)", () -> bureau.merge(1, 0));
        Check.badState("merge(1, 1)", () -> bureau.merge(1, 1));
        Check.badState("merge(0, 0)", () -> bureau.merge(0, 0));
        Check.outOfBounds("merge(3, 0)", () -> bureau.merge(3, 0));
        Check.outOfBounds("merge(0, 3)", () -> bureau.merge(0, 3));
        Check.outOfBounds("merge(-1, -1)", () -> bureau.merge(-1, -1));
        Check.same("merge(2, 1) of an empty one", 4, bureau.merge(2, 1));
        Check.same("changes", 2, bureau.count(12));
        bureau.pass(4);
        Check.same("what a closed office serves", 0, bureau.office(0, 5));
    }

    private static void mergeKeepsTheOrder() {
        Check.promise(42);
        WaitingBureau bureau = Check.loaded("bureau 1 1 2 5 3 0;office a 1 6 6;office b 1 6 6;office c 1 6 6;"
                + "person p;person q;person r;person s;person t;join p a;join q a;join r b;join s b;join t c;");
        bureau.merge(0, 1);
        int[] first = {2, 3, 0, 1};
        for (int place = 0; place < 4; place++) {
            Check.same("queued(1, " + place + ")", first[place], bureau.queued(1, place));
        }
        bureau.merge(1, 2);
        int[] second = {4, 2, 3, 0, 1};
        for (int place = 0; place < 5; place++) {
            Check.same("queued(2, " + place + ")", second[place], bureau.queued(2, place));
        }
        WaitingBureau early = Check.loaded("bureau 1 1 2 5 3 0;office a 1 6 6;office b 1 6 6;person p;person q;person r;"
                + "join p a;pass 1;join q b;pass 1;join r a;");
        early.merge(0, 1);
        int[] third = {0, 1, 2};
        for (int place = 0; place < 3; place++) {
            Check.same("queued(1, " + place + ")", third[place], early.queued(1, place));
        }
        WaitingBureau twins = Check.loaded("bureau 1 1 2 5 3 0;office a 1 6 6;office b 1 6 6;person p;person q;"
                + "join p a;join q a;join q b;join p b;");
        Check.same("merge of twins", 2, twins.merge(1, 0));
        Check.same("queued(0, 0)", 0, twins.queued(0, 0));
        Check.same("queued(0, 1)", 1, twins.queued(0, 1));
        Check.same("state of a twin", WaitingBureau.LEFT, twins.ticket(2, 4));
    }

    private static void reopen() {
        Check.promise(43);
        WaitingBureau bureau = Check.loaded("bureau 1 1 2 5 3 0;office a 1 6 6;office b 1 6 6;office c 1 6 6;person x;"
                + "join x a;");
        Check.badState("reopen(0) of an open one", () -> bureau.reopen(0));
        bureau.merge(0, 1);
        bureau.merge(2, 1);
        Check.same("reopen(0)", 2, bureau.reopen(0));
        Check.same("its queue", 0, bureau.office(0, 4));
        Check.same("whether it is open", 1, bureau.office(0, 3));
        Check.badState("reopen(0) again", () -> bureau.reopen(0));
        Check.same("reopen(2)", 3, bureau.reopen(2));
        Check.same("join(0, 0)", 1, bureau.join(0, 0));
        Check.outOfBounds("reopen(3)", () -> bureau.reopen(3));
        Check.outOfBounds("reopen(-1)", () -> bureau.reopen(-1));
    }

    private static void addPerson() {
        Check.promise(44);
        WaitingBureau bureau = new WaitingBureau();
        for (String odd : new String[] {"", "abcdefg", "A", "a1", " a", "a ", "a;", "a\u00e1", "`", "{"}) {
            Check.put(bureau, odd);
            Check.badArgument("addPerson() of " + odd, bureau::addPerson);
            Check.outOfBounds("truncate(1) after that", () -> bureau.truncate(1));
        }
        Check.put(bureau, "x");
        Check.badState("addPerson() of x", bureau::addPerson);
        Check.outOfBounds("truncate(1) after that", () -> bureau.truncate(1));
        Check.same("changes", 0, bureau.count(12));
        Check.put(bureau, "a");
        Check.same("addPerson() of an office's name", 3, bureau.addPerson());
        Check.outOfBounds("truncate(1) after that", () -> bureau.truncate(1));
        Check.same("its PURSE", 0, bureau.person(3, 0));
        Check.same("changes", 1, bureau.count(12));
        for (int person = 4; person < 16; person++) {
            Check.put(bureau, "perso" + (char) ('a' + person));
            Check.same("addPerson()", person, bureau.addPerson());
        }
        Check.put(bureau, "b");
        Check.badState("addPerson() of the 17th", bureau::addPerson);
        Check.put(bureau, "abcdefg");
        Check.badArgument("addPerson() of the 17th with no name", bureau::addPerson);
        Check.same("persons", 16, bureau.count(1));
        Check.same("join(15, 0)", 0, bureau.join(15, 0));
        bureau.undo();
        bureau.undo();
        Check.put(bureau, "persop");
        Check.noElement("find of one that was undone", () -> bureau.find(false));
    }

    private static void set() {
        Check.promise(45);
        WaitingBureau bureau = rich();
        int[] before = {0, 0, 1, 9, 10};
        int[] low = {0, 0, 1, 1, 1};
        int[] high = {9, 3, 9, 20, 99};
        for (int i = 0; i < 5; i++) {
            int what = i;
            Check.same("set(" + i + ", lowest)", before[i], bureau.set(i, low[i]));
            Check.same("set(" + i + ", highest)", low[i], bureau.set(i, high[i]));
            Check.same("setting(" + i + ")", high[i], bureau.setting(i));
            Check.badArgument("set(" + i + ", below)", () -> bureau.set(what, low[what] - 1));
            Check.badArgument("set(" + i + ", above)", () -> bureau.set(what, high[what] + 1));
        }
        Check.badArgument("set(5, 1)", () -> bureau.set(5, 1));
        Check.badArgument("set(-1, 1)", () -> bureau.set(-1, 1));
        WaitingBureau poor = rich();
        poor.set(4, 99);
        poor.offer(0, 1);
        poor.set(4, 1);
        Check.same("offered tokens after set(4, 1)", 1, poor.count(9));
        poor.set(0, 9);
        Check.same("tokens after set(0, 9)", 10, poor.count(8));
        Check.same("whether a ticket stays proven", 1, poor.ticket(0, 6));
        poor.pass(1);
        Check.same("offered tokens after an hour", 0, poor.count(9));
    }

    private static void undo() {
        Check.promise(46);
        WaitingBureau bureau = new WaitingBureau();
        Check.badState("undo() without changes", bureau::undo);
        for (int i = 0; i < 10; i++) {
            bureau.deposit(1);
        }
        Check.badState("join of a closed one", () -> bureau.reopen(0));
        for (int left = 7; left >= 0; left--) {
            Check.same("undo()", left, bureau.undo());
            Check.same("FUND", 22 + left, bureau.count(11));
        }
        Check.badState("undo() of a ninth change", bureau::undo);
        bureau.deposit(5);
        bureau.set(0, 1);
        Check.same("undo() of a change that changes nothing", 1, bureau.undo());
        Check.same("undo() of the one before", 0, bureau.undo());
        Check.same("FUND", 22, bureau.count(11));
    }

    /** Four tokens are offered. */
    private static WaitingBureau offered() {
        WaitingBureau bureau = rich();
        bureau.set(4, 99);
        bureau.offer(1, 2);
        bureau.offer(0, 2);
        return bureau;
    }

    private static WaitingBureau paidAndUndone() {
        WaitingBureau bureau = offered();
        bureau.deposit(300);
        bureau.offer(0, 1);
        bureau.undo();
        bureau.undo();
        return bureau;
    }

    private static void undoOfAnOffer() {
        Check.promise(46);
        Check.same("everything with offered tokens after undo()", Snapshot.of(ChangeTest::offered),
                Snapshot.of(ChangeTest::paidAndUndone));
        WaitingBureau bureau = paidAndUndone();
        Check.same("place of 0 after undo()", 0, bureau.token(0, 4));
        Check.same("place of 5 after undo()", 3, bureau.token(5, 4));
        bureau.undo();
        Check.same("offered tokens after undo()", 2, bureau.count(9));
    }

    private static void undoOfAWitness() {
        Check.promise(46);
        WaitingBureau bureau = Check.loaded("bureau 0 2 1 4 3 4;office a 2 2 6;person x;person y;"
                + "join x a;join y a;pass 2;claim x;claim y;witness x y;");
        Check.same("whyNot of one who was helped in the text", 7, bureau.whyNot(0, 1));
        bureau.save(0);
        bureau.pass(18);
        Check.same("witness in the new week", 0, bureau.witness(0, 1));
        Check.same("undo() of witness()", 1, bureau.undo());
        Check.same("whyNot after undo() of witness()", 0, bureau.whyNot(0, 1));
        Check.same("undo() of pass()", 0, bureau.undo());
        Check.same("whyNot after undo() of pass()", 7, bureau.whyNot(0, 1));
        bureau.pass(18);
        bureau.restore(0);
        Check.same("whyNot after restore(0)", 7, bureau.whyNot(0, 1));
    }

    private static final String SMALL = "bureau 0 1 1 4 3 6;office a 1 2 6;person x;";

    /** An object in which all that is told of a state has been something else. */
    private static WaitingBureau used() {
        WaitingBureau used = Check.loaded("bureau 0 1 1 4 3 10;office a 1 2 6;office b 1 1 6;person x;person y;person z;"
                + "join y a;join x a;join z a;pass 4;join z b;join y b;join x b;pass 3;claim y;claim x;witness y x;");
        used.witness(4, 2);
        used.offer(0, 3);
        used.offer(1, 2);
        used.tokensIn(1);
        Check.put(used, SMALL);
        used.load();
        return used;
    }

    private static WaitingBureau undone() {
        WaitingBureau bureau = addAndWait(Check.loaded(SMALL), 0);
        bureau.offer(1, 2);
        for (int i = 0; i < 8; i++) {
            bureau.undo();
        }
        return bureau;
    }

    /** What was in an object earlier is of no matter when it is loaded, and when persons and tickets are added. */
    private static void usedRowsBeginAnew() {
        Check.promise(4);
        Check.same("state after load()", Snapshot.of(() -> Check.loaded(SMALL)), Snapshot.of(ChangeTest::used));
        Check.same("state after load() and changes", Snapshot.of(() -> addAndWait(Check.loaded(SMALL), 0)),
                Snapshot.of(() -> addAndWait(used(), 0)));
        Check.promise(46);
        Check.same("persons after undo()", 1, undone().count(1));
        Check.same("state after undo()", Snapshot.of(() -> Check.loaded(SMALL)), Snapshot.of(ChangeTest::undone));
        Check.same("state after undo() and other changes", Snapshot.of(() -> addAndWait(Check.loaded(SMALL), 1)),
                Snapshot.of(() -> addAndWait(undone(), 1)));
    }

    /** Seven changes. */
    private static WaitingBureau addAndWait(WaitingBureau bureau, int way) {
        Check.put(bureau, "y");
        bureau.addPerson();
        bureau.join(way, 0);
        bureau.join(1 - way, 0);
        bureau.pass(4 + way);
        bureau.claim(1 - way);
        if (way == 0) {
            bureau.witness(1, 0);
        } else {
            bureau.set(0, 1);
        }
        bureau.join(1, 0);
        return bureau;
    }

    private static void save() {
        Check.promise(47);
        WaitingBureau bureau = new WaitingBureau();
        bureau.save(0);
        Check.same("changes after save(0)", 0, bureau.count(12));
        bureau.deposit(1);
        bureau.save(1);
        bureau.deposit(2);
        bureau.save(1);
        Check.same("changes after save(1)", 2, bureau.count(12));
        Check.same("undo() after save(1)", 1, bureau.undo());
        bureau.restore(0);
        Check.same("FUND of slot 0", 20, bureau.count(11));
        bureau.restore(1);
        Check.same("FUND of slot 1, saved twice", 23, bureau.count(11));
        Check.outOfBounds("save(2)", () -> bureau.save(2));
        Check.outOfBounds("save(-1)", () -> bureau.save(-1));
    }

    private static void restore() {
        Check.promise(48);
        WaitingBureau bureau = new WaitingBureau();
        Check.noElement("restore(0) of an empty slot", () -> bureau.restore(0));
        Check.noElement("restore(1) of an empty slot", () -> bureau.restore(1));
        Check.outOfBounds("restore(2)", () -> bureau.restore(2));
        Check.outOfBounds("restore(-1)", () -> bureau.restore(-1));
        bureau.save(1);
        Check.noElement("restore(0) of the other slot", () -> bureau.restore(0));
        Check.put(bureau, "wrong");
        Check.badArgument("load()", bureau::load);
        bureau.deposit(3);
        bureau.set(4, 9);
        bureau.join(0, 0);
        bureau.write(0);
        Check.put(bureau, "text");
        bureau.restore(1);
        Check.same("length of the buffer after restore(1)", 4, bureau.truncate(4));
        Check.same("errorCode() after restore(1)", 1, bureau.errorCode());
        Check.same("output after restore(1)", (int) 'x', bureau.outputByte(0));
        Check.same("FUND after restore(1)", 20, bureau.count(11));
        Check.same("PRICE after restore(1)", 3, bureau.setting(4));
        Check.same("tickets after restore(1)", 0, bureau.count(2));
        Check.badState("undo() after restore(1)", bureau::undo);
        bureau.deposit(7);
        bureau.restore(1);
        Check.same("FUND after restore(1) again", 20, bureau.count(11));
        bureau.deposit(7);
        bureau.restore(1);
        Check.same("FUND after restore(1) once more", 20, bureau.count(11));
    }
}
