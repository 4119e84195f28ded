/** The boundaries of hours, weeks, serving and settling in the "Terms". */
public final class HourEdgesTest {
    private HourEdgesTest() {
    }

    public static void main(String[] args) {
        multiplesOfThePace();
        servesDesksOrAll();
        servesTheFirstOnes();
        servedInTheHourOfJoining();
        newWeeks();
        settlesAtThePrice();
        settlesInTheOrderOfOffers();
        settlesEveryHour();
        settlesAfterTheNewWeek();
        closedOfficesServeNobody();
        Check.end("HourEdgesTest");
    }

    private static void multiplesOfThePace() {
        Check.terms("an hour");
        for (int pace = 1; pace <= 6; pace++) {
            WaitingBureau bureau = Check.loaded("bureau 0 0 1 20 1 9;office a 1 " + pace + " 20;" + Texts.persons(16)
                    + Texts.joins(16, "a"));
            for (int time = 1; time <= 14; time++) {
                Check.same("tickets served at " + time + " with PACE " + pace, time % pace == 0 ? 1 : 0, bureau.pass(1));
                Check.same("tickets served up to " + time + " with PACE " + pace, time / pace, bureau.office(0, 5));
            }
            for (int ticket = 0; ticket < 14 / pace; ticket++) {
                Check.same("ENDED of " + ticket + " with PACE " + pace, (ticket + 1) * pace, bureau.ticket(ticket, 3));
            }
            bureau.leave(15);
            bureau.join(15, 0);
            Check.same("JOINED at 14", 14, bureau.ticket(16, 2));
        }
    }

    private static void servesDesksOrAll() {
        Check.terms("an hour");
        for (int desks = 1; desks <= 4; desks++) {
            for (int length = 0; length <= 5; length++) {
                WaitingBureau bureau = Check.loaded("bureau 0 0 1 20 1 9;office a " + desks + " 2 20;" + Texts.persons(5)
                        + Texts.joins(length, "a"));
                String who = " of " + length + " with " + desks + " DESKS";
                Check.same("tickets served at 1" + who, 0, bureau.pass(1));
                Check.same("tickets served at 2" + who, Math.min(desks, length), bureau.pass(1));
                Check.same("tickets left" + who, Math.max(0, length - desks), bureau.office(0, 4));
            }
        }
    }

    private static void servesTheFirstOnes() {
        Check.terms("an hour");
        WaitingBureau bureau = Check.loaded("bureau 0 0 1 20 1 9;office a 2 1 20;office b 1 1 20;" + Texts.persons(4)
                + "join d a;join a a;join c a;join a b;join b a;");
        Check.same("pass(1)", 3, bureau.pass(1));
        int[] due = {1, 1, 0, 1, 0};
        for (int ticket = 0; ticket < 5; ticket++) {
            Check.same("state of " + ticket, due[ticket], bureau.ticket(ticket, 4));
            Check.same("ENDED of " + ticket, due[ticket] == 1 ? 1 : -1, bureau.ticket(ticket, 3));
        }
        Check.same("queued(0, 0)", 2, bureau.queued(0, 0));
        Check.same("queued(0, 1)", 4, bureau.queued(0, 1));
        Check.same("pass(1)", 2, bureau.pass(1));
    }

    private static void servedInTheHourOfJoining() {
        Check.terms("an hour");
        WaitingBureau bureau = Check.loaded("bureau 0 0 1 20 1 9;office a 1 3 20;person x;pass 3;");
        bureau.join(0, 0);
        Check.same("state when it joins at a multiple of PACE", WaitingBureau.WAITING, bureau.ticket(0, 4));
        Check.same("pass(2)", 0, bureau.pass(2));
        bureau.leave(0);
        bureau.join(0, 0);
        Check.same("pass(1) of who joined at 5", 1, bureau.pass(1));
        Check.same("ENDED", 6, bureau.ticket(1, 3));
        Check.same("hours lost", 1, bureau.ticket(1, 8));
    }

    /** Weeks begin at 20, 40 and so on: one token is made in each. */
    private static void newWeeks() {
        Check.terms("general");
        WaitingBureau bureau = Check.loaded("bureau 0 0 1 1 1 0;office a 1 6 20;" + Texts.persons(4)
                + Texts.joins(4, "a") + "pass 24;claim d;");
        for (int time = 24; time < 110; time++) {
            Check.same("tokens at " + time, time / 20, bureau.count(8));
            Check.same("tokens of this week at " + time, 1, bureau.person(3, 7));
            bureau.pass(1);
        }
        WaitingBureau early = Check.loaded("bureau 0 0 1 1 1 0;office a 1 1 20;person x;person y;join x a;join y a;"
                + "pass 2;claim y;");
        early.pass(17);
        Check.same("tokens at 19", 1, early.count(8));
        early.pass(1);
        Check.same("tokens at 20", 2, early.count(8));
        early.undo();
        early.pass(99);
        Check.same("tokens when 20 is passed at once", 2, early.count(8));
    }

    private static void settlesAtThePrice() {
        Check.terms("tokens");
        for (int price : new int[] {1, 2, 50, 99}) {
            for (int more = -1; more <= 1; more++) {
                int fund = price + more;
                WaitingBureau bureau = Check.loaded("bureau 0 0 1 20 " + price + " " + fund
                        + ";office a 1 1 20;person x;join x a;pass 1;claim x;");
                String when = " with FUND " + fund + " and PRICE " + price;
                Check.promise(40);
                Check.same("offer(0, 1)" + when, more < 0 ? 0 : 1, bureau.offer(0, 1));
                Check.same("FUND" + when, more < 0 ? fund : more, bureau.count(11));
                Check.same("PURSE" + when, more < 0 ? 0 : price, bureau.person(0, 0));
                Check.same("state" + when, more < 0 ? WaitingBureau.OFFERED : WaitingBureau.PAID, bureau.token(0, 3));
                Check.promise(41);
                Check.same("deposit(1)" + when, more < 0 ? 0 : more + 1, bureau.deposit(1));
                Check.same("state after deposit(1)" + when, WaitingBureau.PAID, bureau.token(0, 3));
            }
        }
    }

    private static void settlesInTheOrderOfOffers() {
        Check.terms("tokens");
        WaitingBureau bureau = Check.loaded("bureau 0 0 1 20 10 0;office a 2 3 20;person x;person y;join x a;join y a;"
                + "pass 3;claim x;claim y;");
        bureau.offer(1, 1);
        bureau.offer(0, 2);
        bureau.offer(1, 2);
        int[] order = {3, 0, 1, 4, 5};
        for (int place = 0; place < 5; place++) {
            Check.same("place of " + order[place], place, bureau.token(order[place], 4));
        }
        for (int paid = 1; paid <= 5; paid++) {
            Check.same("deposit(9)", 9, bureau.deposit(9));
            Check.same("tokens paid with 9 more", paid - 1, bureau.count(10));
            Check.same("deposit(1)", 0, bureau.deposit(1));
            Check.same("tokens paid with 10 more", paid, bureau.count(10));
            for (int place = 0; place < 5; place++) {
                int state = place < paid ? WaitingBureau.PAID : WaitingBureau.OFFERED;
                Check.same("state of " + order[place], state, bureau.token(order[place], 3));
                Check.same("place of " + order[place], place < paid ? -1 : place - paid, bureau.token(order[place], 4));
            }
        }
        Check.same("PURSE of x", 20, bureau.person(0, 0));
        Check.same("PURSE of y", 30, bureau.person(1, 0));
    }

    /** set() settles nothing; an hour does. */
    private static void settlesEveryHour() {
        Check.terms("an hour");
        WaitingBureau bureau = Check.loaded("bureau 0 0 1 20 99 21;office a 1 3 20;person x;join x a;pass 3;claim x;");
        bureau.offer(0, 3);
        bureau.set(4, 11);
        Check.promise(45);
        Check.same("tokens paid by set()", 0, bureau.count(10));
        Check.terms("an hour");
        bureau.pass(1);
        Check.same("tokens paid in an hour", 1, bureau.count(10));
        Check.same("FUND", 10, bureau.count(11));
        bureau.set(4, 10);
        bureau.pass(1);
        Check.same("tokens paid in the next hour", 2, bureau.count(10));
        Check.same("FUND", 0, bureau.count(11));
        Check.same("PURSE", 21, bureau.person(0, 0));
    }

    /** claim(), witness() and the tokens of a new week do not settle on their own; those made then are held. */
    private static void settlesAfterTheNewWeek() {
        Check.terms("an hour");
        WaitingBureau bureau = Check.loaded("bureau 0 0 1 2 99 30;office a 2 4 20;person x;person y;join x a;join y a;"
                + "pass 4;claim x;");
        bureau.offer(0, 2);
        bureau.set(4, 9);
        Check.same("claim(1)", 2, bureau.claim(1));
        Check.same("tokens paid by claim()", 0, bureau.count(10));
        bureau.pass(16);
        Check.same("tokens at 20", 8, bureau.count(8));
        Check.same("tokens paid at 20", 2, bureau.count(10));
        Check.same("held tokens of x", 2, bureau.person(0, 3));
        Check.same("FUND", 12, bureau.count(11));
    }

    private static void closedOfficesServeNobody() {
        Check.terms("an hour");
        WaitingBureau bureau = Check.loaded("bureau 0 0 1 20 1 9;office a 4 1 20;office b 1 6 20;person x;person y;"
                + "join x a;join y a;");
        bureau.merge(0, 1);
        Check.same("pass(5)", 0, bureau.pass(5));
        Check.same("pass(1)", 1, bureau.pass(1));
        bureau.reopen(0);
        bureau.join(0, 0);
        Check.same("pass(1) of an office that is open again", 1, bureau.pass(1));
        Check.same("what a has served", 1, bureau.office(0, 5));
        Check.same("what b has served", 1, bureau.office(1, 5));
    }
}
