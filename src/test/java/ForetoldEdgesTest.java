/** The boundaries that promises 26 to 31 name; that nobody can wait for as many as 200 hours is tested, too. */
public final class ForetoldEdgesTest {
    private static final Class<?> BOUNDS = IndexOutOfBoundsException.class;
    private static final Class<?> ARGUMENT = IllegalArgumentException.class;

    private ForetoldEdgesTest() {
    }

    public static void main(String[] args) {
        ranges();
        closedOffices();
        longestQueue();
        everyPace();
        servedIn();
        queueIn();
        tokensIn();
        tokensInOfManyWeeks();
        tokensInWithFewLeft();
        servedIf();
        bestOffice();
        longestIfMerged();
        longestIfMergedWithTwins();
        foretellingChangesNothing();
        beyondTheLastTime();
        Check.end("ForetoldEdgesTest");
    }

    /** Sixteen persons wait at f; two of them wait at b, too, as a was merged into it. */
    private static WaitingBureau six() {
        WaitingBureau bureau = Check.loaded("bureau 0 0 1 20 1 9;" + Texts.offices(5, "2 4 9") + "office f 1 6 16;"
                + Texts.persons(16) + Texts.joins(16, "f") + "join a a;join b a;");
        bureau.merge(0, 1);
        return bureau;
    }

    private static void ranges() {
        Check.promise(26);
        Check.range("servedIn()", BOUNDS, 0, 17, ticket -> six().servedIn(ticket));
        Check.promise(27);
        Check.range("queueIn(.., 0)", BOUNDS, 0, 5, office -> six().queueIn(office, 0));
        Check.range("queueIn(5, ..)", ARGUMENT, 0, 200, hours -> six().queueIn(5, hours));
        Check.range("queueIn(0, ..)", ARGUMENT, 0, 200, hours -> six().queueIn(0, hours));
        Check.outOfBounds("queueIn(6, 201)", () -> six().queueIn(6, 201));
        Check.outOfBounds("queueIn(-1, -1)", () -> six().queueIn(-1, -1));
        Check.promise(28);
        Check.range("tokensIn()", ARGUMENT, 0, 200, hours -> six().tokensIn(hours));
        Check.promise(29);
        Check.beyond("servedIf()", BOUNDS, 0, 5, office -> six().servedIf(office));
        Check.promise(31);
        Check.beyond("longestIfMerged(1, ..)", BOUNDS, 0, 5, other -> six().longestIfMerged(1, other));
        Check.beyond("longestIfMerged(.., 1)", BOUNDS, 0, 5, office -> six().longestIfMerged(office, 1));
        Check.beyond("longestIfMerged(0, ..) of a closed one", BOUNDS, 0, 5, other -> six().longestIfMerged(0, other));
        Check.outOfBounds("longestIfMerged(6, 6)", () -> six().longestIfMerged(6, 6));
        Check.outOfBounds("longestIfMerged(-1, -1)", () -> six().longestIfMerged(-1, -1));
    }

    private static void closedOffices() {
        Check.promise(27);
        Check.same("queueIn(0, 0) of a closed one", 0, six().queueIn(0, 0));
        Check.promise(29);
        Check.noElement("servedIf(0) of a closed one", () -> six().servedIf(0));
        WaitingBureau again = six();
        again.reopen(0);
        Check.same("servedIf(0) of one that is open again", 4, again.servedIf(0));
        Check.promise(31);
        for (int i = 0; i < 6; i++) {
            int office = i;
            Check.badState("longestIfMerged() of the same", () -> six().longestIfMerged(office, office));
            Check.badState("longestIfMerged(0, " + i + ")", () -> six().longestIfMerged(0, office));
            Check.badState("longestIfMerged(" + i + ", 0)", () -> six().longestIfMerged(office, 0));
        }
    }

    /** No queue is longer, and none is slower; still all are served within 200 hours. */
    private static void longestQueue() {
        WaitingBureau bureau = six();
        for (int ticket = 0; ticket < 16; ticket++) {
            Check.promise(26);
            Check.same("servedIn(" + ticket + ")", 6 * ticket + 6, bureau.servedIn(ticket));
            Check.promise(27);
            Check.same("queueIn() an hour earlier", 16 - ticket, bureau.queueIn(5, 6 * ticket + 5));
            Check.same("queueIn() then", 15 - ticket, bureau.queueIn(5, 6 * ticket + 6));
        }
        Check.same("queueIn(5, 0)", 16, bureau.queueIn(5, 0));
        Check.same("queueIn(5, 200)", 0, bureau.queueIn(5, 200));
        Check.promise(29);
        Check.same("servedIf(5)", 102, bureau.servedIf(5));
        Check.promise(31);
        Check.same("longestIfMerged(5, 4)", 32, bureau.longestIfMerged(5, 4));
        Check.same("longestIfMerged(4, 5)", 96, bureau.longestIfMerged(4, 5));
        bureau.pass(95);
        Check.promise(26);
        Check.same("servedIn(15) an hour ahead", 1, bureau.servedIn(15));
        bureau.pass(1);
        Check.same("servedIn(15) when it is served", 0, bureau.servedIn(15));
        Check.same("state of ticket 15", WaitingBureau.SERVED, bureau.ticket(15, 4));
    }

    // ---- servedIn and queueIn

    /** The hours until an office has served so many tickets. */
    private static int hoursUntil(int many, int desks, int pace, int time) {
        int hours = 0;
        int left = many;
        while (left > 0) {
            hours++;
            left -= (time + hours) % pace == 0 ? desks : 0;
        }
        return hours;
    }

    private static void everyPace() {
        for (int pace = 1; pace <= 6; pace++) {
            for (int desks = 1; desks <= 4; desks++) {
                for (int time = 0; time <= pace; time++) {
                    waitingNine(desks, pace, time);
                }
            }
        }
    }

    private static void waitingNine(int desks, int pace, int time) {
        String when = " with " + desks + " DESKS and PACE " + pace + " at " + time;
        WaitingBureau bureau = Check.loaded("bureau 0 0 1 20 1 9;office a " + desks + " " + pace + " 20;"
                + Texts.persons(9) + Texts.pass(time) + Texts.joins(9, "a"));
        for (int ticket = 0; ticket < 9; ticket++) {
            Check.promise(26);
            Check.same("servedIn(" + ticket + ")" + when, hoursUntil(ticket + 1, desks, pace, time), bureau.servedIn(ticket));
        }
        Check.promise(29);
        Check.same("servedIf(0)" + when, hoursUntil(10, desks, pace, time), bureau.servedIf(0));
        int[] queue = new int[61];
        for (int hours = 0; hours <= 60; hours++) {
            Check.promise(27);
            queue[hours] = bureau.queueIn(0, hours);
            int due = 0;
            for (int ticket = 0; ticket < 9; ticket++) {
                due += hoursUntil(ticket + 1, desks, pace, time) > hours ? 1 : 0;
            }
            Check.same("queueIn(0, " + hours + ")" + when, due, queue[hours]);
        }
        for (int hours = 1; hours <= 60; hours++) {
            bureau.pass(1);
            Check.terms("hours");
            Check.same("tickets that wait after " + hours + " hours" + when, queue[hours], bureau.office(0, 4));
        }
    }

    private static void servedIn() {
        Check.promise(26);
        WaitingBureau bureau = Check.loaded("bureau 0 0 1 20 1 9;office a 1 6 9;office b 2 1 9;" + Texts.persons(4)
                + Texts.joins(3, "a"));
        bureau.leave(0);
        Check.noElement("servedIn(0) of what left", () -> bureau.servedIn(0));
        Check.same("servedIn(1) when it is the first one", 6, bureau.servedIn(1));
        bureau.join(0, 0);
        Check.same("servedIn(3) of one who joined again", 18, bureau.servedIn(3));
        bureau.merge(0, 1);
        Check.same("servedIn(1) at b", 1, bureau.servedIn(1));
        Check.same("servedIn(3) at b", 2, bureau.servedIn(3));
        bureau.pass(1);
        Check.same("servedIn(2) when it is served", 0, bureau.servedIn(2));
        Check.same("servedIn(3) at b an hour later", 1, bureau.servedIn(3));
        bureau.pass(9);
        Check.same("servedIn(1) of what was served long ago", 0, bureau.servedIn(1));
    }

    private static void queueIn() {
        Check.promise(27);
        WaitingBureau bureau = Check.loaded("bureau 0 0 1 20 1 9;office a 1 6 2;office b 1 6 2;" + Texts.persons(4)
                + "join a a;join b a;join c b;join d b;");
        bureau.merge(0, 1);
        Check.same("queueIn(1, 0) above LIMIT", 4, bureau.queueIn(1, 0));
        Check.same("queueIn(1, 5) above LIMIT", 4, bureau.queueIn(1, 5));
        Check.same("queueIn(1, 6)", 3, bureau.queueIn(1, 6));
        Check.same("queueIn(1, 23)", 1, bureau.queueIn(1, 23));
        Check.same("queueIn(1, 24)", 0, bureau.queueIn(1, 24));
    }

    // ---- tokensIn

    private static void tokensIn() {
        Check.promise(28);
        for (int time = 12; time < 20; time++) {
            WaitingBureau bureau = Check.loaded("bureau 0 0 1 5 1 9;office a 1 6 9;" + Texts.persons(3)
                    + Texts.joins(3, "a") + Texts.pass(time) + "claim b;");
            Check.same("tokensIn(0) at " + time, 5, bureau.tokensIn(0));
            Check.same("tokensIn() to 19", 5, bureau.tokensIn(19 - time));
            Check.same("tokensIn() to 20", 10, bureau.tokensIn(20 - time));
            Check.same("tokensIn() to 39", 10, bureau.tokensIn(39 - time));
            Check.same("tokensIn() to 40", 12, bureau.tokensIn(40 - time));
            Check.same("tokensIn(200)", 12, bureau.tokensIn(200));
        }
        WaitingBureau unproven = Check.loaded("bureau 0 1 1 5 1 9;office a 1 6 9;" + Texts.persons(3)
                + Texts.joins(3, "a") + "pass 12;claim b;");
        Check.same("tokensIn(200) of what is not proven", 0, unproven.tokensIn(200));
    }

    /** One token a week, from 24 to 224. */
    private static void tokensInOfManyWeeks() {
        Check.promise(28);
        WaitingBureau bureau = Check.loaded("bureau 0 0 1 1 1 9;office a 1 6 9;" + Texts.persons(4)
                + Texts.joins(4, "a") + "pass 24;claim d;");
        for (int hours = 0; hours <= 200; hours++) {
            Check.same("tokensIn(" + hours + ")", 1 + (24 + hours) / 20 - 1, bureau.tokensIn(hours));
        }
        bureau.pass(16);
        Check.same("tokensIn(0) at 40", 2, bureau.tokensIn(0));
        Check.same("tokensIn(19) at 40", 2, bureau.tokensIn(19));
        Check.same("tokensIn(20) at 40", 3, bureau.tokensIn(20));
    }

    private static void tokensInWithFewLeft() {
        Check.promise(28);
        WaitingBureau bureau = Check.loaded(Texts.twoHundredTokens().replace("claim o;claim p;", ""));
        Check.same("tokensIn(15) with 184", 184, bureau.tokensIn(15));
        Check.same("tokensIn(16) with 184, and 4 of each of 12 and 13", 192, bureau.tokensIn(16));
        Check.same("tokensIn(200) with 184", 192, bureau.tokensIn(200));
        bureau.claim(14);
        Check.same("tokensIn(200) with 200", 200, bureau.tokensIn(200));
        bureau.undo();
        bureau.set(3, 13);
        bureau.claim(14);
        bureau.set(3, 20);
        Check.same("tokensIn(0) with 197", 197, bureau.tokensIn(0));
        Check.same("tokensIn(16) with 197", 200, bureau.tokensIn(16));
    }

    // ---- servedIf, bestOffice, longestIfMerged

    private static void servedIf() {
        Check.promise(29);
        WaitingBureau bureau = Check.loaded("bureau 0 0 1 20 1 9;office a 4 1 4;office b 1 6 1;" + Texts.persons(9)
                + "join i b;");
        for (int person = 0; person < 4; person++) {
            Check.same("servedIf(0) with " + person + " ahead", 1, bureau.servedIf(0));
            bureau.join(person, 0);
        }
        Check.same("servedIf(0) of a full queue", 2, bureau.servedIf(0));
        Check.same("servedIf(1) of a full queue", 12, bureau.servedIf(1));
        bureau.pass(5);
        Check.same("servedIf(1) at 5", 7, bureau.servedIf(1));
        bureau.pass(1);
        Check.same("servedIf(1) of an empty queue", 6, bureau.servedIf(1));
        bureau.pass(5);
        Check.same("servedIf(1) an hour ahead", 1, bureau.servedIf(1));
        WaitingBureau sixty = Check.loaded(Texts.sixtyTickets());
        Check.same("servedIf(5) with 60 tickets", 18, sixty.servedIf(5));
        WaitingBureau nobody = Check.loaded("bureau 0 0 1 20 1 9;office a 1 3 9;");
        Check.same("servedIf(0) without persons", 3, nobody.servedIf(0));
    }

    private static void bestOffice() {
        Check.promise(30);
        WaitingBureau bureau = Check.loaded("bureau 0 0 1 20 1 9;office a 1 3 1;office b 1 2 1;office c 1 2 1;"
                + "office d 1 4 9;person x;person y;person z;");
        Check.same("bestOffice() of 3, 2, 2, 4", 1, bureau.bestOffice());
        bureau.join(0, 1);
        Check.same("bestOffice() of 3, 4, 2, 4", 2, bureau.bestOffice());
        bureau.join(0, 2);
        Check.same("bestOffice() of 3, 4, 4, 4", 0, bureau.bestOffice());
        bureau.join(0, 0);
        Check.same("bestOffice() of 6, 4, 4, 4", 1, bureau.bestOffice());
        bureau.join(1, 3);
        bureau.merge(1, 0);
        Check.same("bestOffice() of 6, closed, 4, 8", 2, bureau.bestOffice());
        bureau.merge(2, 3);
        Check.same("bestOffice() of 6, closed, closed, 12", 0, bureau.bestOffice());
        bureau.merge(0, 3);
        Check.same("bestOffice() of d alone", 3, bureau.bestOffice());
        bureau.reopen(2);
        Check.same("bestOffice() with c again", 2, bureau.bestOffice());
        WaitingBureau sixteen = Check.loaded("bureau 0 0 1 20 1 9;office a 1 6 16;" + Texts.persons(16)
                + Texts.joins(16, "a"));
        Check.same("bestOffice() of one with 102 hours", 0, sixteen.bestOffice());
    }

    private static void longestIfMerged() {
        Check.promise(31);
        WaitingBureau bureau = Check.loaded("bureau 0 0 1 20 1 9;office a 1 2 9;office b 1 3 9;office c 1 6 9;"
                + Texts.persons(4));
        Check.same("longestIfMerged(0, 1) when none waits", 0, bureau.longestIfMerged(0, 1));
        bureau.join(0, 2);
        Check.same("longestIfMerged(0, 1) of one at c", 6, bureau.longestIfMerged(0, 1));
        bureau.pass(1);
        bureau.join(1, 0);
        Check.same("longestIfMerged(1, 0) of one at c from 0 to 6", 6, bureau.longestIfMerged(1, 0));
        Check.same("longestIfMerged(2, 0) of 0 to 2 and 1 to 4", 3, bureau.longestIfMerged(2, 0));
        Check.same("longestIfMerged(2, 1) of 0 to 3 and 1 to 2", 3, bureau.longestIfMerged(2, 1));
        Check.same("longestIfMerged(0, 2) of 0 to 6 and 1 to 12", 11, bureau.longestIfMerged(0, 2));
        bureau.leave(0);
        Check.same("longestIfMerged(0, 1) of 1 to 3", 2, bureau.longestIfMerged(0, 1));
        Check.same("longestIfMerged(1, 0) of 1 to 2", 1, bureau.longestIfMerged(1, 0));
        bureau.pass(1);
        Check.same("longestIfMerged(0, 1) when none waits any more", 0, bureau.longestIfMerged(0, 1));
        WaitingBureau full = Check.loaded("bureau 0 0 1 20 1 9;office a 1 6 1;office b 1 6 1;person x;person y;"
                + "join x a;join y b;");
        Check.same("longestIfMerged(0, 1) above LIMIT", 12, full.longestIfMerged(0, 1));
        WaitingBureau late = Check.loaded("bureau 0 0 1 20 1 9;office a 4 6 9;office b 1 1 9;person x;person y;"
                + "join x a;pass 5;join y a;");
        Check.same("longestIfMerged(1, 0) of 0 to 6 and 5 to 6", 6, late.longestIfMerged(1, 0));
        Check.same("longestIfMerged(0, 1) of 0 to 6 and 5 to 7", 6, late.longestIfMerged(0, 1));
    }

    /** The ticket of x that is behind would leave, so that y is served earlier. */
    private static void longestIfMergedWithTwins() {
        Check.promise(31);
        WaitingBureau bureau = Check.loaded("bureau 0 0 1 20 1 9;office a 1 6 9;office b 1 6 9;person x;person y;"
                + "join x a;pass 1;join x b;");
        Check.same("longestIfMerged(0, 1) of two tickets of x", 6, bureau.longestIfMerged(0, 1));
        Check.same("longestIfMerged(1, 0) of two tickets of x", 6, bureau.longestIfMerged(1, 0));
        bureau.join(1, 1);
        Check.same("longestIfMerged(0, 1) with y behind", 11, bureau.longestIfMerged(0, 1));
        Check.same("longestIfMerged(1, 0) with y behind", 11, bureau.longestIfMerged(1, 0));
    }

    private static WaitingBureau manifold() {
        WaitingBureau bureau = Check.loaded("bureau 0 0 1 2 5 7;office a 1 2 9;office b 1 6 9;office c 1 6 9;"
                + "person x;person y;person z;join x b;join y a;join x a;pass 4;join z a;join x c;");
        bureau.claim(1);
        bureau.claim(2);
        bureau.offer(1, 2);
        bureau.save(1);
        bureau.write(1);
        return bureau;
    }

    /** With a lower PRICE the next hour will pay for what is offered; foretelling that hour does not. */
    private static WaitingBureau unsettled() {
        WaitingBureau bureau = manifold();
        bureau.set(4, 1);
        return bureau;
    }

    private static void foretellingChangesNothing() {
        Check.promise(26);
        Check.same("everything after foretelling", Snapshot.of(ForetoldEdgesTest::manifold),
                Snapshot.of(() -> foretold(manifold())));
        Check.same("everything after foretelling what will be paid", Snapshot.of(ForetoldEdgesTest::unsettled),
                Snapshot.of(() -> foretold(unsettled())));
        WaitingBureau bureau = unsettled();
        Check.same("offered tokens", 1, bureau.count(9));
        bureau.pass(1);
        Check.same("offered tokens after an hour", 0, bureau.count(9));
    }

    private static WaitingBureau foretold(WaitingBureau bureau) {
        bureau.servedIn(0);
        bureau.queueIn(0, 200);
        bureau.tokensIn(200);
        bureau.servedIf(0);
        bureau.bestOffice();
        bureau.longestIfMerged(0, 1);
        bureau.longestIfMerged(1, 2);
        return bureau;
    }

    private static void beyondTheLastTime() {
        String text = "bureau 0 0 1 2 1 9;office a 1 6 16;office b 4 1 9;" + Texts.persons(16) + Texts.pass(990)
                + "join p a;" + "pass 6;claim p;pass 3;";
        WaitingBureau bureau = Check.loaded(text);
        Check.same("time", 999, bureau.count(3));
        for (int person = 0; person < 16; person++) {
            bureau.join(person, 0);
        }
        Check.promise(26);
        Check.same("servedIn(1) at 1002", 3, bureau.servedIn(1));
        Check.same("servedIn(16) at 1092", 93, bureau.servedIn(16));
        Check.promise(27);
        Check.same("queueIn(0, 2) at 1001", 16, bureau.queueIn(0, 2));
        Check.same("queueIn(0, 3) at 1002", 15, bureau.queueIn(0, 3));
        Check.same("queueIn(0, 200) at 1199", 0, bureau.queueIn(0, 200));
        Check.promise(28);
        Check.same("tokensIn(0) at 999", 2, bureau.tokensIn(0));
        Check.same("tokensIn(1) at 1000", 4, bureau.tokensIn(1));
        Check.same("tokensIn(20) at 1019", 4, bureau.tokensIn(20));
        Check.same("tokensIn(21) at 1020", 6, bureau.tokensIn(21));
        Check.same("tokensIn(200) at 1199", 6, bureau.tokensIn(200));
        Check.promise(29);
        Check.same("servedIf(0) at 1098", 99, bureau.servedIf(0));
        Check.same("servedIf(1) at 1000", 1, bureau.servedIf(1));
        Check.promise(30);
        Check.same("bestOffice() at 999", 1, bureau.bestOffice());
        Check.promise(31);
        Check.same("longestIfMerged(0, 1) of 999 to 1003", 4, bureau.longestIfMerged(0, 1));
        Check.same("longestIfMerged(1, 0) of 999 to 1092", 93, bureau.longestIfMerged(1, 0));
        Check.promise(36);
        Check.badState("pass(1) at 999", () -> bureau.pass(1));
    }
}
