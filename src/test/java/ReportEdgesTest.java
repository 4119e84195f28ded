/** The boundaries that promises 8 to 15 name. */
public final class ReportEdgesTest {
    private static final Class<?> BOUNDS = IndexOutOfBoundsException.class;
    private static final Class<?> ARGUMENT = IllegalArgumentException.class;

    private ReportEdgesTest() {
    }

    public static void main(String[] args) {
        count();
        countOfHoursToTheNewWeek();
        countOfTheMost();
        setting();
        office();
        queued();
        person();
        personAtSixOffices();
        personInTheNewWeek();
        ticket();
        lostHours();
        lostHoursOfWhatHasNotEnded();
        token();
        twoHundredOfferedTokens();
        isPaidFor();
        isPaidForAtTheLastHours();
        Check.end("ReportEdgesTest");
    }

    private static void count() {
        Check.promise(8);
        Check.range("count()", ARGUMENT, 0, 12, what -> new WaitingBureau().count(what));
        WaitingBureau bureau = Check.loaded("bureau 0 2 1 9 9 10;office a 4 2 9;office b 1 1 1;" + Texts.persons(4)
                + Texts.joins(4, "a") + "pass 2;claim a;claim b;claim c;witness b a;join a b;");
        counts(bureau, 2, 4, 5, 2, 18, 1, 3, 0, 0, 0, 0, 10, 0);
        bureau.witness(0, 2);
        counts(bureau, 2, 4, 5, 2, 18, 1, 2, 1, 2, 0, 0, 10, 1);
        bureau.offer(0, 2);
        counts(bureau, 2, 4, 5, 2, 18, 1, 2, 1, 2, 1, 1, 1, 2);
        bureau.leave(4);
        counts(bureau, 2, 4, 5, 2, 18, 0, 2, 1, 2, 1, 1, 1, 3);
    }

    private static void counts(WaitingBureau bureau, int... due) {
        for (int what = 0; what < due.length; what++) {
            Check.same("count(" + what + ")", due[what], bureau.count(what));
        }
    }

    private static void countOfHoursToTheNewWeek() {
        Check.promise(8);
        int[][] due = {{0, 20}, {1, 19}, {19, 1}, {20, 20}, {21, 19}, {39, 1}, {40, 20}, {999, 1}};
        for (int[] timeAndHours : due) {
            WaitingBureau bureau = Check.loaded("bureau 0 0 1 1 1 0;office a 1 1 1;" + Texts.pass(timeAndHours[0]));
            Check.same("the present time", timeAndHours[0], bureau.count(3));
            Check.same("hours to the new week at " + timeAndHours[0], timeAndHours[1], bureau.count(4));
        }
    }

    private static void countOfTheMost() {
        Check.promise(8);
        WaitingBureau sixty = Check.loaded(Texts.sixtyTickets());
        counts(sixty, 6, 11, 60, 0, 20, 60);
        WaitingBureau full = Check.loaded(Texts.twoHundredTokens());
        counts(full, 1, 16, 16, 24, 16, 0, 0, 16, 200, 0, 0, 0, 0);
        WaitingBureau rich = Check.loaded("bureau 0 0 1 1 1 99998;office a 1 1 1;");
        for (int changes = 1; changes <= 10; changes++) {
            if (changes == 1) {
                rich.deposit(1);
            } else {
                rich.set(0, 1);
            }
            Check.same("changes after " + changes, Math.min(8, changes), rich.count(12));
        }
        Check.same("FUND", 99999, rich.count(11));
    }

    private static void setting() {
        Check.promise(9);
        Check.range("setting()", ARGUMENT, 0, 4, what -> new WaitingBureau().setting(what));
        WaitingBureau bureau = Check.loaded("bureau 9 3 8 20 99 0;office a 1 1 1;");
        int[] due = {9, 3, 8, 20, 99};
        for (int what = 0; what < 5; what++) {
            Check.same("setting(" + what + ")", due[what], bureau.setting(what));
        }
    }

    private static void office() {
        Check.promise(10);
        String text = "bureau 0 0 1 1 1 0;" + Texts.offices(5, "1 2 3") + "office f 4 6 20;person x;";
        Check.range("office(.., 0)", BOUNDS, 0, 5, office -> Check.loaded(text).office(office, 0));
        Check.range("office(0, ..)", ARGUMENT, 0, 5, what -> Check.loaded(text).office(0, what));
        Check.range("office(5, ..)", ARGUMENT, 0, 5, what -> Check.loaded(text).office(5, what));
        Check.outOfBounds("office(6, 6)", () -> Check.loaded(text).office(6, 6));
        Check.outOfBounds("office(-1, -1)", () -> Check.loaded(text).office(-1, -1));
        WaitingBureau bureau = Check.loaded(text);
        bureau.join(0, 5);
        bureau.join(0, 4);
        bureau.pass(1);
        offices(bureau, 5, 4, 6, 20, 1, 1, 0);
        offices(bureau, 4, 1, 2, 3, 1, 1, 0);
        bureau.pass(1);
        offices(bureau, 4, 1, 2, 3, 1, 0, 1);
        bureau.merge(5, 4);
        offices(bureau, 5, 4, 6, 20, 0, 0, 0);
        bureau.pass(2);
        offices(bureau, 4, 1, 2, 3, 1, 0, 2);
        bureau.join(0, 4);
        bureau.leave(2);
        offices(bureau, 4, 1, 2, 3, 1, 0, 2);
        bureau.merge(4, 3);
        bureau.reopen(4);
        offices(bureau, 4, 1, 2, 3, 1, 0, 2);
    }

    private static void offices(WaitingBureau bureau, int office, int... due) {
        for (int what = 0; what < due.length; what++) {
            Check.same("office(" + office + ", " + what + ")", due[what], bureau.office(office, what));
        }
    }

    private static void queued() {
        Check.promise(11);
        String text = "bureau 0 0 1 1 1 0;" + Texts.offices(2, "1 1 16") + Texts.persons(16) + "join p b;"
                + Texts.joins(16, "a");
        Check.range("queued(0, ..)", BOUNDS, 0, 15, place -> Check.loaded(text).queued(0, place));
        Check.range("queued(1, ..)", BOUNDS, 0, 0, place -> Check.loaded(text).queued(1, place));
        Check.range("queued(.., 0)", BOUNDS, 0, 1, office -> Check.loaded(text).queued(office, 0));
        WaitingBureau bureau = Check.loaded(text);
        for (int place = 0; place < 16; place++) {
            Check.same("queued(0, " + place + ")", place + 1, bureau.queued(0, place));
        }
        bureau.pass(1);
        Check.same("queued(0, 0) an hour later", 2, bureau.queued(0, 0));
        Check.same("queued(0, 14) an hour later", 16, bureau.queued(0, 14));
        Check.outOfBounds("queued(0, 15) an hour later", () -> bureau.queued(0, 15));
        Check.outOfBounds("queued(1, 0) of an empty queue", () -> bureau.queued(1, 0));
    }

    private static void person() {
        Check.promise(12);
        String text = "bureau 0 0 1 1 1 0;office a 1 1 16;" + Texts.persons(16);
        Check.range("person(.., 0)", BOUNDS, 0, 15, person -> Check.loaded(text).person(person, 0));
        Check.range("person(0, ..)", ARGUMENT, 0, 9, what -> Check.loaded(text).person(0, what));
        Check.range("person(15, ..)", ARGUMENT, 0, 9, what -> Check.loaded(text).person(15, what));
        Check.outOfBounds("person(16, 10)", () -> Check.loaded(text).person(16, 10));
        Check.outOfBounds("person(-1, -1)", () -> Check.loaded(text).person(-1, -1));
        WaitingBureau nobody = Check.loaded("bureau 0 0 1 1 1 0;office a 1 1 16;");
        Check.outOfBounds("person(0, 0) without persons", () -> nobody.person(0, 0));
        WaitingBureau full = Check.loaded(Texts.twoHundredTokens());
        for (int person = 0; person < 15; person++) {
            full.give(person, 15, full.person(person, 3));
        }
        Check.same("tokens that the last person holds", 200, full.person(15, 3));
        full.offer(15, 200);
        Check.same("tokens that the last person offers", 200, full.person(15, 4));
        full.deposit(200);
        Check.same("tokens of the last person that are paid", 200, full.person(15, 5));
        Check.same("PURSE of the last person", 200, full.person(15, 0));
        Check.same("tokens of the tickets of person 0", 6, full.person(0, 6));
    }

    private static void persons(WaitingBureau bureau, int person, int... due) {
        for (int what = 0; what < due.length; what++) {
            Check.same("person(" + person + ", " + what + ")", due[what], bureau.person(person, what));
        }
    }

    private static void personAtSixOffices() {
        Check.promise(12);
        WaitingBureau bureau = Check.loaded("bureau 0 0 1 1 1 0;" + Texts.offices(6, "1 6 9") + Texts.persons(2));
        for (int office = 0; office < 6; office++) {
            bureau.join(1, office);
            Check.same("tickets", office + 1, bureau.person(1, 1));
            Check.same("waiting tickets", office + 1, bureau.person(1, 2));
            Check.same("tickets of another person", 0, bureau.person(0, 1));
            Check.same("waiting tickets of another person", 0, bureau.person(0, 2));
        }
        bureau.leave(0);
        Check.same("waiting tickets when the first one left", 5, bureau.person(1, 2));
        bureau.leave(5);
        Check.same("waiting tickets when the last one left", 4, bureau.person(1, 2));
        bureau.join(0, 0);
        Check.same("waiting tickets ahead of that of another person", 4, bureau.person(1, 2));
        Check.same("waiting tickets of the other person", 1, bureau.person(0, 2));
        bureau.pass(6);
        Check.same("waiting tickets when all are served", 0, bureau.person(1, 2));
        Check.same("tickets when all are served", 6, bureau.person(1, 1));
    }

    /** What is counted of this week begins anew at 20, not at 19. */
    private static void personInTheNewWeek() {
        Check.promise(12);
        WaitingBureau bureau = Check.loaded("bureau 1 1 1 3 1 0;office a 4 6 9;office b 4 4 9;" + Texts.persons(2)
                + "join a a;join a b;join b a;pass 6;");
        persons(bureau, 0, 0, 2, 0, 0, 0, 0, 0, 0, 0, 5);
        bureau.claim(0);
        bureau.witness(0, 1);
        persons(bureau, 0, 0, 2, 0, 3, 0, 0, 3, 3, 0, 2);
        persons(bureau, 1, 0, 1, 0, 0, 0, 0, 0, 0, 1, 5);
        bureau.pass(13);
        persons(bureau, 0, 0, 2, 0, 3, 0, 0, 3, 3, 0, 2);
        persons(bureau, 1, 0, 1, 0, 0, 0, 0, 0, 0, 1, 5);
        bureau.pass(1);
        persons(bureau, 0, 0, 2, 0, 5, 0, 0, 5, 2, 0, 0);
        persons(bureau, 1, 0, 1, 0, 0, 0, 0, 0, 0, 0, 5);
        bureau.give(0, 1, 4);
        persons(bureau, 0, 0, 2, 0, 1, 0, 0, 5, 2, 0, 0);
        persons(bureau, 1, 0, 1, 0, 4, 0, 0, 0, 0, 0, 5);
        bureau.join(1, 0);
        persons(bureau, 1, 0, 2, 1, 4);
        bureau.set(0, 5);
        persons(bureau, 1, 0, 2, 1, 4, 0, 0, 0, 0, 0, 1);
        bureau.set(0, 6);
        persons(bureau, 1, 0, 2, 1, 4, 0, 0, 0, 0, 0, 0);
    }

    private static void ticket() {
        Check.promise(13);
        Check.range("ticket(.., 0)", BOUNDS, 0, 59, ticket -> Check.loaded(Texts.sixtyTickets()).ticket(ticket, 0));
        Check.range("ticket(0, ..)", ARGUMENT, 0, 10, what -> Check.loaded(Texts.sixtyTickets()).ticket(0, what));
        Check.range("ticket(59, ..)", ARGUMENT, 0, 10, what -> Check.loaded(Texts.sixtyTickets()).ticket(59, what));
        Check.outOfBounds("ticket(60, 11)", () -> Check.loaded(Texts.sixtyTickets()).ticket(60, 11));
        Check.outOfBounds("ticket(-1, -1)", () -> Check.loaded(Texts.sixtyTickets()).ticket(-1, -1));
        Check.outOfBounds("ticket(0, 0) without tickets", () -> new WaitingBureau().ticket(0, 0));
        WaitingBureau bureau = Check.loaded(Texts.sixtyTickets());
        tickets(bureau, 59, 9, 5, 0, -1, 0, 0, 0, 0, 0, 0, 9);
        bureau.pass(6);
        tickets(bureau, 59, 9, 5, 0, -1, 0, 0, 0, 0, 6, 0, 5);
        tickets(bureau, 53, 3, 5, 0, 6, 1, 0, 0, 0, 6, 0, -1);
        tickets(bureau, 54, 4, 5, 0, -1, 0, 0, 0, 0, 6, 0, 0);
        bureau.set(1, 1);
        bureau.claim(53);
        tickets(bureau, 53, 3, 5, 0, 6, 1, 1, 0, 0, 6, 0, -1);
        bureau.witness(53, 9);
        tickets(bureau, 53, 3, 5, 0, 6, 1, 1, 1, 1, 6, 6, -1);
        bureau.leave(58);
        tickets(bureau, 58, 8, 5, 0, 6, 2, 0, 0, 0, 6, 0, -1);
        tickets(bureau, 59, 9, 5, 0, -1, 0, 0, 0, 0, 6, 0, 4);
    }

    private static void tickets(WaitingBureau bureau, int ticket, int... due) {
        for (int what = 0; what < due.length; what++) {
            Check.same("ticket(" + ticket + ", " + what + ")", due[what], bureau.ticket(ticket, what));
        }
    }

    /** An hour is lost if it is JOINED + GRACE or later, and earlier than ENDED. */
    private static void lostHours() {
        Check.promise(13);
        for (int grace = 0; grace <= 9; grace++) {
            WaitingBureau bureau = Check.loaded("bureau " + grace + " 0 1 20 1 0;office a 1 6 9;person x;person y;"
                    + "pass 1;join x a;pass 2;join y a;pass 9;claim x;claim y;");
            Check.same("hours lost from 1 to 6 with GRACE " + grace, Math.max(0, 5 - grace), bureau.ticket(0, 8));
            Check.same("hours lost from 3 to 12 with GRACE " + grace, 9 - grace, bureau.ticket(1, 8));
            Check.same("tokens made for it", 9 - grace, bureau.ticket(1, 9));
            for (int hour = 0; hour < 20; hour++) {
                boolean isLost = hour >= 3 + grace && hour < 12;
                Check.same("whether hour " + hour + " is lost with GRACE " + grace, isLost, bureau.isPaidFor(1, hour));
            }
        }
    }

    private static void lostHoursOfWhatHasNotEnded() {
        Check.promise(13);
        WaitingBureau bureau = Check.loaded("bureau 2 0 1 20 1 0;office a 1 6 9;person x;pass 1;join x a;");
        int[] waiting = {0, 0, 0, 1, 2};
        for (int hour = 0; hour < 5; hour++) {
            Check.same("hours lost after " + hour + " hours", waiting[hour], bureau.ticket(0, 8));
            if (hour < 4) {
                bureau.pass(1);
            }
        }
        bureau.leave(0);
        Check.same("hours lost when it left", 2, bureau.ticket(0, 8));
        bureau.pass(9);
        Check.same("hours lost since it left", 2, bureau.ticket(0, 8));
        bureau.set(0, 0);
        Check.same("hours lost with GRACE 0", 4, bureau.ticket(0, 8));
    }

    private static void token() {
        Check.promise(14);
        String text = Texts.twoHundredTokens();
        Check.range("token(.., 0)", BOUNDS, 0, 199, token -> Check.loaded(text).token(token, 0));
        Check.range("token(0, ..)", ARGUMENT, 0, 4, what -> Check.loaded(text).token(0, what));
        Check.range("token(199, ..)", ARGUMENT, 0, 4, what -> Check.loaded(text).token(199, what));
        Check.outOfBounds("token(200, 5)", () -> Check.loaded(text).token(200, 5));
        Check.outOfBounds("token(-1, -1)", () -> Check.loaded(text).token(-1, -1));
        Check.outOfBounds("token(0, 0) without tokens", () -> new WaitingBureau().token(0, 0));
        WaitingBureau bureau = Check.loaded("bureau 0 0 1 20 2 3;office a 1 3 9;person x;person y;join x a;join y a;"
                + "pass 6;claim y;claim x;");
        tokens(bureau, 0, 1, 1, 0, 0, -1);
        tokens(bureau, 5, 1, 1, 5, 0, -1);
        tokens(bureau, 6, 0, 0, 0, 0, -1);
        tokens(bureau, 8, 0, 0, 2, 0, -1);
        Check.outOfBounds("token(9, 0)", () -> bureau.token(9, 0));
        bureau.offer(0, 2);
        tokens(bureau, 6, 0, 0, 0, 2, -1);
        tokens(bureau, 7, 0, 0, 1, 1, 0);
        bureau.give(1, 0, 1);
        bureau.offer(0, 2);
        tokens(bureau, 0, 0, 1, 0, 1, 1);
        tokens(bureau, 8, 0, 0, 2, 1, 2);
    }

    private static void tokens(WaitingBureau bureau, int token, int... due) {
        for (int what = 0; what < due.length; what++) {
            Check.same("token(" + token + ", " + what + ")", due[what], bureau.token(token, what));
        }
    }

    private static void twoHundredOfferedTokens() {
        Check.promise(14);
        WaitingBureau bureau = Check.loaded(Texts.twoHundredTokens());
        for (int person = 14; person >= 0; person--) {
            bureau.offer(person, bureau.person(person, 3));
        }
        Check.same("offered tokens", 200, bureau.count(9));
        Check.same("place of the last token of person 0", 199, bureau.token(5, 4));
        Check.same("place of the first token of person 0", 194, bureau.token(0, 4));
        Check.same("place of the last token", 15, bureau.token(199, 4));
        Check.same("place of the first token of person 14", 0, bureau.token(184, 4));
        Check.same("deposit() of the price of 199", 0, bureau.deposit(199));
        Check.same("place of the one that is left", 0, bureau.token(5, 4));
        Check.same("place of one that is paid", WaitingBureau.NONE, bureau.token(4, 4));
    }

    private static void isPaidFor() {
        Check.promise(15);
        String text = Texts.twoHundredTokens();
        Check.range("isPaidFor(.., 0)", BOUNDS, 0, 15, person -> Check.loaded(text).isPaidFor(person, 0));
        Check.range("isPaidFor(0, ..)", ARGUMENT, 0, 999, hour -> Check.loaded(text).isPaidFor(0, hour));
        Check.range("isPaidFor(15, ..)", ARGUMENT, 0, 999, hour -> Check.loaded(text).isPaidFor(15, hour));
        Check.outOfBounds("isPaidFor(16, 1000)", () -> Check.loaded(text).isPaidFor(16, 1000));
        Check.outOfBounds("isPaidFor(-1, -1)", () -> Check.loaded(text).isPaidFor(-1, -1));
        WaitingBureau bureau = Check.loaded(text);
        int[][] lastHours = {{0, 5}, {4, 11}, {8, 17}, {11, 17}, {12, 19}, {13, 19}, {14, 15}};
        for (int[] personAndHour : lastHours) {
            int person = personAndHour[0];
            int last = personAndHour[1];
            Check.same("isPaidFor(" + person + ", 0)", true, bureau.isPaidFor(person, 0));
            Check.same("isPaidFor(" + person + ", " + last + ")", true, bureau.isPaidFor(person, last));
            Check.same("isPaidFor(" + person + ", " + (last + 1) + ")", false, bureau.isPaidFor(person, last + 1));
        }
        Check.same("isPaidFor(15, 0) of one without tokens", false, bureau.isPaidFor(15, 0));
        bureau.give(0, 1, 6);
        Check.same("isPaidFor(0, 5) of tokens that others own", true, bureau.isPaidFor(0, 5));
        bureau.offer(1, 12);
        bureau.deposit(12);
        Check.same("isPaidFor(0, 5) of paid tokens", true, bureau.isPaidFor(0, 5));
    }

    private static void isPaidForAtTheLastHours() {
        Check.promise(15);
        WaitingBureau bureau = Check.loaded("bureau 0 0 1 20 1 0;office a 1 3 9;person x;" + Texts.pass(996)
                + "join x a;pass 3;claim x;");
        boolean[] due = {false, true, true, true, false};
        for (int i = 0; i < 5; i++) {
            Check.same("isPaidFor(0, " + (995 + i) + ")", due[i], bureau.isPaidFor(0, 995 + i));
        }
        Check.same("tokens", 3, bureau.count(8));
    }
}
