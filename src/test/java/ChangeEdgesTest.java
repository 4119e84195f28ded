/** The boundaries that promises 34 to 36 and 39 to 45 name. */
public final class ChangeEdgesTest {
    private static final Class<?> BOUNDS = IndexOutOfBoundsException.class;
    private static final Class<?> ARGUMENT = IllegalArgumentException.class;

    private ChangeEdgesTest() {
    }

    public static void main(String[] args) {
        join();
        joinSixty();
        joinUpToTheLimit();
        joinAgain();
        leave();
        pass();
        passToTheLastTime();
        give();
        giveTwoHundred();
        giveTheLowest();
        offer();
        offerTwoHundred();
        deposit();
        depositUpToTheGreatestFund();
        merge();
        mergeInTheOrderOfJoined();
        mergeOfTwins();
        mergeOfFullQueues();
        reopen();
        addPerson();
        addSixteenPersons();
        set();
        Check.end("ChangeEdgesTest");
    }

    // ---- join, leave, pass

    private static WaitingBureau sixPlaces() {
        return Check.loaded("bureau 0 0 1 20 1 9;" + Texts.offices(6, "1 6 9") + Texts.persons(16));
    }

    private static void join() {
        Check.promise(34);
        Check.range("join(.., 0)", BOUNDS, 0, 15, person -> sixPlaces().join(person, 0));
        Check.range("join(0, ..)", BOUNDS, 0, 5, office -> sixPlaces().join(0, office));
        Check.range("join(15, ..)", BOUNDS, 0, 5, office -> sixPlaces().join(15, office));
        WaitingBureau bureau = sixPlaces();
        bureau.merge(0, 1);
        Check.badState("join(0, 0) of a closed office", () -> bureau.join(0, 0));
        Check.outOfBounds("join(16, 0) of a closed office", () -> bureau.join(16, 0));
        bureau.reopen(0);
        Check.same("join(0, 0) of one that is open again", 0, bureau.join(0, 0));
        bureau.pass(1);
        Check.same("join(15, 0)", 1, bureau.join(15, 0));
        int[] due = {15, 0, 1, -1, 0, 0, 0, 0, 0, 0, 1};
        for (int what = 0; what < due.length; what++) {
            Check.same("ticket(1, " + what + ")", due[what], bureau.ticket(1, what));
        }
    }

    private static void joinSixty() {
        Check.promise(34);
        WaitingBureau bureau = Check.loaded(Texts.sixtyTickets());
        bureau.merge(0, 1);
        bureau.undo();
        Check.badState("join(10, 5) of the 61st ticket", () -> bureau.join(10, 5));
        bureau.leave(0);
        Check.badState("join(10, 5) of the 61st ticket when one left", () -> bureau.join(10, 5));
        bureau.pass(99);
        Check.badState("join(10, 5) of the 61st ticket when all are served", () -> bureau.join(10, 5));
        Check.outOfBounds("join(11, 5) of the 61st ticket", () -> bureau.join(11, 5));
        WaitingBureau nearly = Check.loaded(Texts.sixtyTickets().replace("join i f;join j f;", "join i f;"));
        Check.same("tickets", 59, nearly.count(2));
        Check.same("join(10, 5) of the 60th ticket", 59, nearly.join(10, 5));
        Check.badState("join(9, 5) of the 61st ticket", () -> nearly.join(9, 5));
        nearly.undo();
        Check.same("join(9, 5) of the 60th ticket", 59, nearly.join(9, 5));
    }

    private static void joinUpToTheLimit() {
        Check.promise(34);
        for (int limit = 1; limit <= 20; limit++) {
            WaitingBureau bureau = Check.loaded("bureau 0 0 1 20 1 9;office a 1 6 " + limit + ";" + Texts.persons(16));
            for (int person = 0; person < Math.min(16, limit); person++) {
                Check.same("join() " + (person + 1) + " with LIMIT " + limit, person, bureau.join(person, 0));
            }
            if (limit < 16) {
                Check.badState("join() with LIMIT " + limit, () -> bureau.join(15, 0));
                bureau.leave(0);
                Check.same("join() when one left", limit, bureau.join(15, 0));
                Check.badState("join() when it is full again", () -> bureau.join(0, 0));
                bureau.pass(6);
                Check.same("join() when one is served", limit + 1, bureau.join(0, 0));
            }
        }
        WaitingBureau above = Check.loaded("bureau 0 0 1 20 1 9;office a 1 6 2;office b 1 6 2;" + Texts.persons(5)
                + "join a a;join b a;join c b;");
        above.merge(1, 0);
        Check.badState("join() above LIMIT", () -> above.join(4, 0));
        above.pass(6);
        Check.badState("join() at LIMIT", () -> above.join(4, 0));
        above.pass(6);
        Check.same("join() below LIMIT", 3, above.join(4, 0));
    }

    private static void joinAgain() {
        Check.promise(34);
        WaitingBureau bureau = Check.loaded("bureau 0 0 1 20 1 9;office a 1 6 9;office b 1 6 9;person x;person y;");
        bureau.join(0, 0);
        bureau.join(1, 0);
        Check.badState("join(0, 0) of the first one there", () -> bureau.join(0, 0));
        Check.badState("join(1, 0) of the last one there", () -> bureau.join(1, 0));
        Check.same("join(1, 1) of another office", 2, bureau.join(1, 1));
        bureau.pass(5);
        Check.badState("join(0, 0) an hour ahead of being served", () -> bureau.join(0, 0));
        bureau.pass(1);
        Check.same("join(0, 0) of who is served", 3, bureau.join(0, 0));
        bureau.leave(1);
        Check.same("join(1, 0) of who left", 4, bureau.join(1, 0));
    }

    private static void leave() {
        Check.promise(35);
        Check.range("leave()", BOUNDS, 0, 59, ticket -> Check.loaded(Texts.sixtyTickets()).leave(ticket));
        Check.outOfBounds("leave(0) without tickets", () -> new WaitingBureau().leave(0));
        WaitingBureau bureau = Check.loaded("bureau 0 0 1 20 1 9;office a 1 6 9;" + Texts.persons(4) + Texts.joins(4, "a"));
        Check.same("leave(3) at once", 0, bureau.leave(3));
        Check.badState("leave(3) again", () -> bureau.leave(3));
        bureau.pass(5);
        bureau.join(3, 0);
        Check.same("leave(1) after 5 hours", 5, bureau.leave(1));
        int[] queue = {0, 2, 4};
        for (int place = 0; place < 3; place++) {
            Check.same("queued(0, " + place + ")", queue[place], bureau.queued(0, place));
        }
        Check.outOfBounds("queued(0, 3)", () -> bureau.queued(0, 3));
        bureau.pass(1);
        Check.badState("leave(0) of what is served", () -> bureau.leave(0));
        Check.same("leave(4) after an hour", 1, bureau.leave(4));
        Check.same("state of 4", WaitingBureau.LEFT, bureau.ticket(4, 4));
        Check.same("ENDED of 4", 6, bureau.ticket(4, 3));
        Check.same("ENDED of 1", 5, bureau.ticket(1, 3));
        Check.same("served tickets", 1, bureau.office(0, 5));
        Check.same("queued(0, 0)", 2, bureau.queued(0, 0));
    }

    private static void pass() {
        Check.promise(36);
        Check.range("pass()", ARGUMENT, 1, 99, hours -> sixPlaces().pass(hours));
        WaitingBureau bureau = Check.loaded(Texts.sixtyTickets());
        Check.same("pass(5)", 0, bureau.pass(5));
        Check.same("pass(1) to 6", 24, bureau.pass(1));
        Check.same("pass(99)", 36, bureau.pass(99));
        Check.same("time", 105, bureau.count(3));
        Check.same("pass(1) with nobody", 0, bureau.pass(1));
    }

    private static void passToTheLastTime() {
        Check.promise(36);
        String start = "bureau 0 0 1 20 1 9;office a 1 1 9;person x;";
        for (int hours : new int[] {1, 2, 50, 98, 99}) {
            WaitingBureau bureau = Check.loaded(start + Texts.pass(999 - hours));
            if (hours < 99) {
                Check.badState("pass(" + (hours + 1) + ") to 1000", () -> bureau.pass(hours + 1));
            }
            Check.badArgument("pass(0)", () -> bureau.pass(0));
            Check.badArgument("pass(100)", () -> bureau.pass(100));
            bureau.join(0, 0);
            Check.same("pass(" + hours + ") to 999", 1, bureau.pass(hours));
            Check.same("the last time", 999, bureau.count(3));
            Check.badState("pass(1) to 1000", () -> bureau.pass(1));
        }
        WaitingBureau bureau = Check.loaded(start + Texts.pass(901));
        Check.badState("pass(99) to 1000", () -> bureau.pass(99));
        Check.same("pass(98) to 999", 0, bureau.pass(98));
    }

    // ---- give, offer, deposit

    /** Person o has tokens 184 to 199, the others have those before; p has none. */
    private static WaitingBureau full() {
        return Check.loaded(Texts.twoHundredTokens());
    }

    private static void give() {
        Check.promise(39);
        Check.beyond("give(.., 15, 1)", BOUNDS, 0, 15, person -> full().give(person, 15, 1));
        Check.beyond("give(0, .., 1)", BOUNDS, 0, 15, other -> full().give(0, other, 1));
        Check.beyond("give(.., 16, 0)", BOUNDS, 0, 15, person -> full().give(person, 16, 0));
        Check.beyond("give(0, 0, ..)", ARGUMENT, 1, 200, many -> full().give(0, 0, many));
        Check.same("give(0, 15, 1)", 1, full().give(0, 15, 1));
        Check.same("give(14, 0, 16) of all", 22, full().give(14, 0, 16));
        Check.badState("give(14, 0, 17) of one more", () -> full().give(14, 0, 17));
        Check.badState("give(0, 15, 200) of many more", () -> full().give(0, 15, 200));
        Check.badState("give(15, 0, 1) of none", () -> full().give(15, 0, 1));
        Check.badState("give(0, 0, 1) to the same", () -> full().give(0, 0, 1));
        Check.badState("give(15, 15, 200) to the same", () -> full().give(15, 15, 200));
        WaitingBureau bureau = full();
        bureau.offer(0, 2);
        Check.badState("give(0, 15, 5) with 4 held", () -> bureau.give(0, 15, 5));
        Check.same("give(0, 15, 4) with 4 held", 4, bureau.give(0, 15, 4));
        Check.badState("give(0, 15, 1) with none held", () -> bureau.give(0, 15, 1));
        bureau.offer(15, 1);
        Check.same("give(1, 15, 1) to one who holds 3", 4, bureau.give(1, 15, 1));
    }

    private static void giveTwoHundred() {
        Check.promise(39);
        WaitingBureau bureau = full();
        for (int person = 0; person < 14; person++) {
            bureau.give(person, 15, bureau.person(person, 3));
        }
        Check.same("held tokens", 184, bureau.person(15, 3));
        Check.badState("give(15, 0, 200) with 184 held", () -> bureau.give(15, 0, 200));
        bureau.give(14, 15, 15);
        Check.badState("give(15, 0, 200) with 199 held", () -> bureau.give(15, 0, 200));
        bureau.give(14, 15, 1);
        Check.badArgument("give(15, 0, 201) with 200 held", () -> bureau.give(15, 0, 201));
        Check.same("give(15, 0, 200) with 200 held", 200, bureau.give(15, 0, 200));
        Check.same("owner of the last one", 0, bureau.token(199, 0));
    }

    private static void giveTheLowest() {
        Check.promise(39);
        WaitingBureau bureau = full();
        bureau.give(2, 0, 3);
        bureau.give(0, 1, 8);
        int[] owners = {1, 1, 1, 1, 1, 1, 1, 1, 1, 1, 1, 1, 1, 1, 0, 2, 2, 2, 3};
        for (int token = 0; token < owners.length; token++) {
            Check.same("owner of " + token, owners[token], bureau.token(token, 0));
            Check.same("state of " + token, WaitingBureau.HELD, bureau.token(token, 3));
        }
        Check.same("ticket of 0", 0, bureau.token(0, 1));
    }

    private static void offer() {
        Check.promise(40);
        Check.beyond("offer(.., 1)", BOUNDS, 0, 15, person -> full().offer(person, 1));
        Check.beyond("offer(.., 0)", BOUNDS, 0, 15, person -> full().offer(person, 0));
        Check.beyond("offer(0, ..)", ARGUMENT, 1, 200, many -> full().offer(0, many));
        Check.same("offer(0, 1)", 0, full().offer(0, 1));
        Check.same("offer(14, 16) of all", 0, full().offer(14, 16));
        Check.badState("offer(14, 17) of one more", () -> full().offer(14, 17));
        Check.badState("offer(14, 200) of many more", () -> full().offer(14, 200));
        Check.badState("offer(15, 1) of none", () -> full().offer(15, 1));
        WaitingBureau bureau = full();
        bureau.give(2, 0, 1);
        bureau.offer(0, 2);
        Check.badState("offer(0, 6) with 5 held", () -> bureau.offer(0, 6));
        Check.same("offer(0, 5) with 5 held", 0, bureau.offer(0, 5));
        int[] row = {0, 1, 2, 3, 4, 5, 12};
        for (int place = 0; place < row.length; place++) {
            Check.same("place of " + row[place], place, bureau.token(row[place], 4));
        }
        Check.same("state of the next one of c", WaitingBureau.HELD, bureau.token(13, 3));
        bureau.set(4, 3);
        bureau.deposit(2);
        bureau.set(4, 1);
        Check.same("offer(1, 1) that pays two of a", 2, bureau.offer(1, 1));
        Check.same("PURSE of a", 2, bureau.person(0, 0));
        Check.same("FUND", 0, bureau.count(11));
    }

    private static void offerTwoHundred() {
        Check.promise(40);
        WaitingBureau bureau = full();
        for (int person = 0; person < 15; person++) {
            bureau.give(person, 15, bureau.person(person, 3));
        }
        bureau.deposit(199);
        Check.badArgument("offer(15, 201) with 200 held", () -> bureau.offer(15, 201));
        Check.same("offer(15, 200) with 200 held and a FUND of 199", 199, bureau.offer(15, 200));
        Check.same("state of the last one", WaitingBureau.OFFERED, bureau.token(199, 3));
        Check.same("state of the one before", WaitingBureau.PAID, bureau.token(198, 3));
        bureau.undo();
        bureau.deposit(1);
        bureau.give(15, 0, 1);
        Check.badState("offer(15, 200) with 199 held", () -> bureau.offer(15, 200));
        bureau.give(0, 15, 1);
        Check.same("offer(15, 200) with 200 held and a FUND of 200", 200, bureau.offer(15, 200));
        Check.same("PURSE", 200, bureau.person(15, 0));
    }

    private static void deposit() {
        Check.promise(41);
        Check.range("deposit()", ARGUMENT, 1, 9999, amount -> new WaitingBureau().deposit(amount));
        Check.same("deposit(1)", 21, new WaitingBureau().deposit(1));
        Check.same("deposit(9999)", 10019, new WaitingBureau().deposit(9999));
        WaitingBureau bureau = full();
        bureau.offer(0, 3);
        Check.same("deposit(2) that pays two", 0, bureau.deposit(2));
        Check.same("paid tokens", 2, bureau.count(10));
        Check.same("deposit(9999) that pays one", 9998, bureau.deposit(9999));
        Check.same("paid tokens", 3, bureau.count(10));
    }

    private static void depositUpToTheGreatestFund() {
        Check.promise(41);
        for (int amount : new int[] {1, 2, 9998, 9999}) {
            String head = "bureau 0 0 1 20 1 ";
            String tail = ";office a 1 1 9;person x;join x a;pass 1;claim x;";
            WaitingBureau bureau = Check.loaded(head + (99999 - amount) + tail);
            if (amount < 9999) {
                Check.badState("deposit() to 100000", () -> bureau.deposit(amount + 1));
                Check.badState("deposit(9999) to far more", () -> bureau.deposit(9999));
            }
            Check.badArgument("deposit(10000)", () -> bureau.deposit(10000));
            Check.same("deposit() to 99999", 99999, bureau.deposit(amount));
            Check.badState("deposit(1) at 99999", () -> bureau.deposit(1));
            Check.badArgument("deposit(0) at 99999", () -> bureau.deposit(0));
            Check.badArgument("deposit(10000) at 99999", () -> bureau.deposit(10000));
            Check.same("offer(0, 1) at 99999", 1, bureau.offer(0, 1));
            Check.same("deposit(1) at 99998", 99999, bureau.deposit(1));
        }
        WaitingBureau row = Check.loaded("bureau 0 0 1 20 1 99990;office a 1 1 9;person x;join x a;pass 1;claim x;");
        row.set(4, 99);
        Check.same("deposit(9) ahead of settling", 99999, row.deposit(9));
        row.undo();
        Check.badState("deposit(10) ahead of settling", () -> row.deposit(10));
    }

    // ---- merge and reopen

    private static void merge() {
        Check.promise(42);
        Check.beyond("merge(.., 0)", BOUNDS, 0, 5, office -> sixPlaces().merge(office, 0));
        Check.beyond("merge(0, ..)", BOUNDS, 0, 5, other -> sixPlaces().merge(0, other));
        Check.beyond("merge() of the same", BOUNDS, 0, 5, office -> sixPlaces().merge(office, office));
        Check.same("merge(0, 5)", 0, sixPlaces().merge(0, 5));
        Check.same("merge(5, 0)", 0, sixPlaces().merge(5, 0));
        for (int i = 0; i < 6; i++) {
            int office = i;
            Check.badState("merge() of the same", () -> sixPlaces().merge(office, office));
        }
        WaitingBureau bureau = sixPlaces();
        bureau.join(0, 0);
        bureau.join(1, 5);
        Check.same("merge(5, 0) of one and one", 2, bureau.merge(5, 0));
        Check.same("whether 5 is open", 0, bureau.office(5, 3));
        Check.same("whether 0 is open", 1, bureau.office(0, 3));
        Check.same("queue of 5", 0, bureau.office(5, 4));
        Check.badState("merge(5, 0) of a closed one", () -> bureau.merge(5, 0));
        Check.badState("merge(0, 5) with a closed one", () -> bureau.merge(0, 5));
        Check.badState("merge(5, 5) of a closed one", () -> bureau.merge(5, 5));
        Check.outOfBounds("merge(5, 6) of a closed one", () -> bureau.merge(5, 6));
        Check.outOfBounds("merge(6, 6)", () -> bureau.merge(6, 6));
        Check.same("office of the ticket that came with 5", 0, bureau.ticket(1, 1));
    }

    private static void queue(WaitingBureau bureau, int office, int... due) {
        Check.same("queue of " + office, due.length, bureau.office(office, 4));
        for (int place = 0; place < due.length; place++) {
            Check.same("queued(" + office + ", " + place + ")", due[place], bureau.queued(office, place));
            Check.same("office of " + due[place], office, bureau.ticket(due[place], 1));
            Check.same("place of " + due[place], place, bureau.ticket(due[place], 10));
            Check.same("state of " + due[place], WaitingBureau.WAITING, bureau.ticket(due[place], 4));
        }
    }

    /** With the same JOINED those of the other office come first; an hour earlier or later decides. */
    private static void mergeInTheOrderOfJoined() {
        Check.promise(42);
        String start = "bureau 0 0 1 20 1 9;office a 1 6 9;office b 1 6 9;" + Texts.persons(6);
        WaitingBureau same = Check.loaded(start + "join a a;join b b;join c a;join d b;");
        Check.same("merge(0, 1)", 4, same.merge(0, 1));
        queue(same, 1, 1, 3, 0, 2);
        same.undo();
        Check.same("merge(1, 0)", 4, same.merge(1, 0));
        queue(same, 0, 0, 2, 1, 3);
        WaitingBureau mixed = Check.loaded(start + "join a a;pass 1;join b b;join c a;pass 1;join d b;pass 1;join e a;"
                + "join f b;");
        mixed.merge(0, 1);
        queue(mixed, 1, 0, 1, 2, 3, 5, 4);
        mixed.undo();
        mixed.merge(1, 0);
        queue(mixed, 0, 0, 2, 1, 3, 4, 5);
        WaitingBureau empty = Check.loaded(start + "join a a;pass 1;join b a;");
        Check.same("merge(1, 0) of an empty queue", 2, empty.merge(1, 0));
        queue(empty, 0, 0, 1);
        empty.undo();
        Check.same("merge(0, 1) with an empty queue", 2, empty.merge(0, 1));
        queue(empty, 1, 0, 1);
        Check.badState("join(0, 1) of one who came with a queue", () -> empty.join(0, 1));
    }

    private static void left(WaitingBureau bureau, int ticket, int office) {
        Check.same("state of " + ticket, WaitingBureau.LEFT, bureau.ticket(ticket, 4));
        Check.same("ENDED of " + ticket, bureau.count(3), bureau.ticket(ticket, 3));
        Check.same("office of " + ticket, office, bureau.ticket(ticket, 1));
        Check.same("place of " + ticket, WaitingBureau.NONE, bureau.ticket(ticket, 10));
    }

    private static void mergeOfTwins() {
        Check.promise(42);
        String start = "bureau 0 0 1 20 1 9;office a 1 6 9;office b 1 6 9;" + Texts.persons(4);
        WaitingBureau same = Check.loaded(start + "join a a;join b a;join b b;join a b;pass 1;");
        Check.same("merge(0, 1) of twins", 2, same.merge(0, 1));
        queue(same, 1, 2, 3);
        left(same, 0, 1);
        left(same, 1, 1);
        same.undo();
        Check.same("merge(1, 0) of twins", 2, same.merge(1, 0));
        queue(same, 0, 0, 1);
        left(same, 2, 0);
        left(same, 3, 0);
        WaitingBureau later = Check.loaded(start + "join a a;join b b;pass 1;join c a;join b a;join a b;join d b;pass 1;");
        later.merge(0, 1);
        queue(later, 1, 1, 0, 5, 2);
        left(later, 3, 1);
        left(later, 4, 1);
        later.undo();
        later.merge(1, 0);
        queue(later, 0, 0, 1, 2, 5);
        left(later, 3, 0);
        left(later, 4, 0);
        later.pass(4);
        Check.same("served tickets of a", 1, later.office(0, 5));
        Check.same("ENDED of what left stays", 2, later.ticket(4, 3));
    }

    /** All sixteen persons wait at both offices. */
    private static void mergeOfFullQueues() {
        Check.promise(42);
        WaitingBureau bureau = Check.loaded("bureau 0 0 1 20 1 9;office a 1 6 16;office b 1 6 1;office c 1 6 16;"
                + Texts.persons(16) + Texts.joins(16, "a") + "pass 1;join p b;" + Texts.joins(16, "c"));
        Check.same("merge(0, 2) of 16 and 16", 16, bureau.merge(0, 2));
        Check.same("queued(2, 0)", 0, bureau.queued(2, 0));
        Check.same("queued(2, 15)", 15, bureau.queued(2, 15));
        Check.same("waiting tickets", 17, bureau.count(5));
        bureau.undo();
        Check.same("merge(2, 0) of 16 and 16", 16, bureau.merge(2, 0));
        Check.same("queued(0, 15)", 15, bureau.queued(0, 15));
        bureau.undo();
        Check.same("merge(2, 1) of 16 and 1", 16, bureau.merge(2, 1));
        Check.same("queued(1, 0)", 16, bureau.queued(1, 0));
        Check.same("queued(1, 15)", 31, bureau.queued(1, 15));
        Check.same("LIMIT", 1, bureau.office(1, 2));
    }

    private static void reopen() {
        Check.promise(43);
        Check.beyond("reopen()", BOUNDS, 0, 5, office -> sixPlaces().reopen(office));
        WaitingBureau bureau = sixPlaces();
        bureau.join(0, 0);
        for (int office = 0; office < 5; office++) {
            bureau.merge(office, 5);
        }
        Check.badState("reopen(5) of the one that is open", () -> bureau.reopen(5));
        Check.same("reopen(0)", 2, bureau.reopen(0));
        Check.same("queue of 0", 0, bureau.office(0, 4));
        Check.same("queue of 5", 1, bureau.office(5, 4));
        Check.badState("reopen(0) again", () -> bureau.reopen(0));
        for (int office = 1; office < 5; office++) {
            Check.same("reopen(" + office + ")", office + 2, bureau.reopen(office));
        }
        for (int i = 0; i < 6; i++) {
            int office = i;
            Check.badState("reopen(" + i + ") when all are open", () -> bureau.reopen(office));
        }
        bureau.merge(5, 0);
        Check.same("reopen(5)", 6, bureau.reopen(5));
    }

    // ---- addPerson and set

    private static void addPerson() {
        Check.promise(44);
        for (String name : new String[] {"a", "q", "bcdefg", "zzzzzz", "person", "xx"}) {
            WaitingBureau bureau = new WaitingBureau();
            Check.put(bureau, name);
            Check.same("addPerson() of " + name, 3, bureau.addPerson());
            Check.outOfBounds("truncate(1) after addPerson()", () -> bureau.truncate(1));
            Check.same("changes", 1, bureau.count(12));
            Check.put(bureau, name);
            Check.same("find() of " + name, 3, bureau.find(false));
            Check.put(bureau, name);
            Check.badState("addPerson() of " + name + " again", bureau::addPerson);
            Check.outOfBounds("truncate(1) after that", () -> bureau.truncate(1));
        }
        for (String odd : new String[] {"", "bcdefgh", "witness", " q", "q ", "q\n", "Q", "q1", "1", ";", "`", "{", "\u0000",
            "\u00e1", "q r", "aaaaaaaaaaaaaaaaaaaaaaaaaaaaaaaaaaaaaaaa"}) {
            WaitingBureau bureau = new WaitingBureau();
            Check.put(bureau, odd);
            Check.badArgument("addPerson() of " + odd, bureau::addPerson);
            Check.outOfBounds("truncate(1) after that", () -> bureau.truncate(1));
            Check.same("persons", 3, bureau.count(1));
            Check.same("changes", 0, bureau.count(12));
        }
    }

    private static void addSixteenPersons() {
        Check.promise(44);
        WaitingBureau bureau = Check.loaded("bureau 0 0 1 20 1 9;office a 4 1 20;");
        for (int person = 0; person < 16; person++) {
            Check.put(bureau, "new" + Texts.name(person));
            Check.same("addPerson()", person, bureau.addPerson());
        }
        Check.put(bureau, "q");
        Check.badState("addPerson() of the 17th", bureau::addPerson);
        Check.outOfBounds("truncate(1) after that", () -> bureau.truncate(1));
        Check.put(bureau, "");
        Check.badArgument("addPerson() of the 17th without a name", bureau::addPerson);
        Check.put(bureau, "newa");
        Check.badState("addPerson() of the first one again", bureau::addPerson);
        bureau.join(15, 0);
        bureau.pass(1);
        Check.same("claim(0) of the 16th", 1, bureau.claim(0));
        Check.same("tokens of the 16th", 1, bureau.person(15, 3));
        bureau.undo();
        bureau.undo();
        bureau.undo();
        bureau.undo();
        Check.same("persons after undo()", 15, bureau.count(1));
        Check.put(bureau, "q");
        Check.same("addPerson() of the 16th again", 15, bureau.addPerson());
        Check.same("tokens of another 16th", 0, bureau.person(15, 3));
    }

    private static void set() {
        Check.promise(45);
        int[] before = {1, 1, 2, 5, 3};
        int[] first = {0, 0, 1, 1, 1};
        int[] last = {9, 3, 9, 20, 99};
        for (int i = 0; i < 5; i++) {
            int what = i;
            Check.range("set(" + i + ", ..)", ARGUMENT, first[i], last[i], value -> new WaitingBureau().set(what, value));
            WaitingBureau bureau = new WaitingBureau();
            Check.same("set(" + i + ", least)", before[i], bureau.set(i, first[i]));
            Check.same("set(" + i + ", greatest)", first[i], bureau.set(i, last[i]));
            Check.same("set(" + i + ", same)", last[i], bureau.set(i, last[i]));
            Check.same("changes", 3, bureau.count(12));
            for (int other = 0; other < 5; other++) {
                Check.same("setting(" + other + ")", other == i ? last[i] : before[other], bureau.setting(other));
            }
        }
        Check.beyond("set(.., 1)", ARGUMENT, 0, 4, what -> new WaitingBureau().set(what, 1));
        WaitingBureau full = full();
        full.offer(0, 1);
        full.set(0, 9);
        Check.same("tokens when GRACE is 9", 200, full.count(8));
        full.set(2, 9);
        full.set(1, 3);
        Check.same("proven tickets", 16, full.count(7));
        full.set(3, 1);
        Check.same("tokens of this week above CAP", 20, full.person(13, 7));
    }
}
