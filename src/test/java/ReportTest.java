/** Promises 8 to 15: what there is. */
public final class ReportTest {
    private ReportTest() {
    }

    public static void main(String[] args) {
        count();
        setting();
        office();
        queued();
        person();
        ticket();
        token();
        isPaidFor();
        Check.end("ReportTest");
    }

    /**
     * GRACE 1, NEED 1, OVERLAP 1, CAP 5, PRICE 3, FUND 7; x and y are served at a (at 2 and 4), z waits there;
     * the ticket of y is proven with three tokens, that of x is claimed.
     */
    private static WaitingBureau example() {
        return Check.loaded("bureau 1 1 1 5 3 7;office a 1 2 6;office b 2 3 4;person x;person y;person z;"
                + "join x a;join y a;pass 3;join z a;pass 1;claim y;witness x y;claim x;join y b;");
    }

    private static void counts(String when, WaitingBureau bureau, int... due) {
        for (int what = 0; what < due.length; what++) {
            Check.same("count(" + what + ") " + when, due[what], bureau.count(what));
        }
    }

    private static void count() {
        Check.promise(8);
        WaitingBureau bureau = example();
        counts("of the example", bureau, 2, 3, 4, 4, 16, 2, 1, 1, 3, 0, 0, 7, 0);
        bureau.offer(1, 3);
        counts("after offer(1, 3)", bureau, 2, 3, 4, 4, 16, 2, 1, 1, 3, 1, 2, 1, 1);
        bureau.pass(15);
        Check.same("count(4) at 19", 1, bureau.count(4));
        bureau.pass(1);
        Check.same("count(4) at 20", 20, bureau.count(4));
        Check.badArgument("count(-1)", () -> bureau.count(-1));
        Check.badArgument("count(13)", () -> bureau.count(13));
        for (int i = 0; i < 9; i++) {
            bureau.deposit(1);
        }
        Check.same("count(12) after many changes", 8, bureau.count(12));
    }

    private static void setting() {
        Check.promise(9);
        WaitingBureau bureau = Check.loaded("bureau 9 3 8 20 99 0;office a 1 1 1;");
        int[] due = {9, 3, 8, 20, 99};
        for (int what = 0; what < 5; what++) {
            Check.same("setting(" + what + ")", due[what], bureau.setting(what));
        }
        Check.badArgument("setting(-1)", () -> bureau.setting(-1));
        Check.badArgument("setting(5)", () -> bureau.setting(5));
    }

    private static void office() {
        Check.promise(10);
        WaitingBureau bureau = example();
        int[][] due = {{1, 2, 6, 1, 1, 2}, {2, 3, 4, 1, 1, 0}};
        for (int office = 0; office < 2; office++) {
            for (int what = 0; what < 6; what++) {
                Check.same("office(" + office + ", " + what + ")", due[office][what], bureau.office(office, what));
            }
        }
        bureau.merge(0, 1);
        Check.same("whether a closed office is open", 0, bureau.office(0, 3));
        Check.same("what a closed office has served", 2, bureau.office(0, 5));
        bureau.pass(2);
        Check.same("what b has served", 2, bureau.office(1, 5));
        Check.same("what a has served still", 2, bureau.office(0, 5));
        Check.outOfBounds("office(2, 0)", () -> bureau.office(2, 0));
        Check.outOfBounds("office(-1, 9)", () -> bureau.office(-1, 9));
        Check.badArgument("office(0, 6)", () -> bureau.office(0, 6));
        Check.badArgument("office(0, -1)", () -> bureau.office(0, -1));
    }

    private static void queued() {
        Check.promise(11);
        WaitingBureau bureau = new WaitingBureau();
        bureau.join(2, 0);
        bureau.join(0, 1);
        bureau.join(1, 0);
        Check.same("queued(0, 0)", 0, bureau.queued(0, 0));
        Check.same("queued(0, 1)", 2, bureau.queued(0, 1));
        Check.same("queued(1, 0)", 1, bureau.queued(1, 0));
        Check.outOfBounds("queued(0, 2)", () -> bureau.queued(0, 2));
        Check.outOfBounds("queued(0, -1)", () -> bureau.queued(0, -1));
        Check.outOfBounds("queued(2, 0)", () -> bureau.queued(2, 0));
        Check.outOfBounds("queued(-1, 0)", () -> bureau.queued(-1, 0));
        bureau.leave(0);
        Check.same("queued(0, 0) after leave(0)", 2, bureau.queued(0, 0));
        Check.outOfBounds("queued(0, 1) after leave(0)", () -> bureau.queued(0, 1));
    }

    private static void person() {
        Check.promise(12);
        WaitingBureau bureau = example();
        int[][] due = {{0, 1, 0, 0, 0, 0, 0, 0, 1, 1}, {0, 2, 1, 3, 0, 0, 3, 3, 0, 0}, {0, 1, 1, 0, 0, 0, 0, 0, 0, 0}};
        persons("of the example", bureau, due);
        WaitingBureau waiting = new WaitingBureau();
        waiting.join(1, 0);
        waiting.join(1, 1);
        Check.same("waiting tickets of y", 2, waiting.person(1, 2));
        waiting.leave(0);
        Check.same("waiting tickets of y", 1, waiting.person(1, 2));
        bureau.give(1, 2, 1);
        bureau.offer(2, 1);
        bureau.offer(1, 2);
        int[][] later = {{0, 1, 0, 0, 0, 0, 0, 0, 1, 1}, {3, 2, 1, 0, 1, 1, 3, 3, 0, 0}, {3, 1, 1, 0, 0, 1, 0, 0, 0, 0}};
        persons("after give and offer", bureau, later);
        bureau.pass(16);
        Check.same("tokens made in the new week", 0, bureau.person(1, 7));
        Check.same("times as a witness in the new week", 0, bureau.person(0, 8));
        Check.same("unpaid hours of z", 2, bureau.person(2, 9));
        Check.outOfBounds("person(3, 0)", () -> bureau.person(3, 0));
        Check.outOfBounds("person(-1, 10)", () -> bureau.person(-1, 10));
        Check.badArgument("person(0, 10)", () -> bureau.person(0, 10));
        Check.badArgument("person(0, -1)", () -> bureau.person(0, -1));
    }

    private static void persons(String when, WaitingBureau bureau, int[][] due) {
        for (int person = 0; person < due.length; person++) {
            for (int what = 0; what < 10; what++) {
                Check.same("person(" + person + ", " + what + ") " + when, due[person][what], bureau.person(person, what));
            }
        }
    }

    private static void ticket() {
        Check.promise(13);
        WaitingBureau bureau = example();
        int[][] due = {
            {0, 0, 0, 2, 1, 1, 0, 0, 1, 0, -1}, {1, 0, 0, 4, 1, 1, 1, 1, 3, 3, -1},
            {2, 0, 3, -1, 0, 0, 0, 0, 0, 0, 0}, {1, 1, 4, -1, 0, 0, 0, 0, 0, 0, 0}};
        for (int ticket = 0; ticket < 4; ticket++) {
            for (int what = 0; what < 11; what++) {
                Check.same("ticket(" + ticket + ", " + what + ")", due[ticket][what], bureau.ticket(ticket, what));
            }
        }
        bureau.join(0, 0);
        Check.same("place of the second one", 1, bureau.ticket(4, 10));
        bureau.pass(1);
        Check.same("hours lost by a ticket that waits", 1, bureau.ticket(2, 8));
        bureau.set(0, 0);
        Check.same("hours lost with GRACE 0", 2, bureau.ticket(2, 8));
        bureau.leave(2);
        Check.same("state of what left", WaitingBureau.LEFT, bureau.ticket(2, 4));
        Check.same("ENDED of what left", 5, bureau.ticket(2, 3));
        Check.same("place of what left", WaitingBureau.NONE, bureau.ticket(2, 10));
        bureau.pass(5);
        Check.same("hours lost by what left", 2, bureau.ticket(2, 8));
        Check.outOfBounds("ticket(5, 0)", () -> bureau.ticket(5, 0));
        Check.outOfBounds("ticket(-1, 11)", () -> bureau.ticket(-1, 11));
        Check.badArgument("ticket(0, 11)", () -> bureau.ticket(0, 11));
        Check.badArgument("ticket(0, -1)", () -> bureau.ticket(0, -1));
    }

    private static void token() {
        Check.promise(14);
        WaitingBureau bureau = example();
        bureau.give(1, 0, 1);
        bureau.offer(1, 2);
        bureau.offer(0, 1);
        int[][] due = {{0, 1, 1, 1, 0}, {1, 1, 2, 2, -1}, {1, 1, 3, 2, -1}};
        for (int token = 0; token < 3; token++) {
            for (int what = 0; what < 5; what++) {
                Check.same("token(" + token + ", " + what + ")", due[token][what], bureau.token(token, what));
            }
        }
        WaitingBureau poor = Check.loaded("bureau 0 0 1 9 9 0;office a 1 4 6;person x;join x a;pass 4;claim x;");
        Check.same("place of what is not offered", WaitingBureau.NONE, poor.token(3, 4));
        poor.offer(0, 1);
        poor.offer(0, 3);
        for (int token = 0; token < 4; token++) {
            Check.same("token(" + token + ", 4) of offered ones", token, poor.token(token, 4));
        }
        poor.deposit(9);
        Check.same("token(3, 4) when the first one is paid", 2, poor.token(3, 4));
        Check.outOfBounds("token(4, 0)", () -> poor.token(4, 0));
        Check.outOfBounds("token(-1, 5)", () -> poor.token(-1, 5));
        Check.badArgument("token(0, 5)", () -> poor.token(0, 5));
        Check.badArgument("token(0, -1)", () -> poor.token(0, -1));
    }

    private static void isPaidFor() {
        Check.promise(15);
        WaitingBureau bureau = example();
        boolean[] due = {false, true, true, true, false};
        bureau.give(1, 2, 3);
        for (int hour = 0; hour < due.length; hour++) {
            Check.same("isPaidFor(1, " + hour + ")", due[hour], bureau.isPaidFor(1, hour));
            Check.same("isPaidFor(2, " + hour + ") of who owns the tokens", false, bureau.isPaidFor(2, hour));
        }
        Check.same("isPaidFor(0, 999)", false, bureau.isPaidFor(0, 999));
        Check.badArgument("isPaidFor(0, 1000)", () -> bureau.isPaidFor(0, 1000));
        Check.badArgument("isPaidFor(0, -1)", () -> bureau.isPaidFor(0, -1));
        Check.outOfBounds("isPaidFor(3, -1)", () -> bureau.isPaidFor(3, -1));
        Check.outOfBounds("isPaidFor(-1, 0)", () -> bureau.isPaidFor(-1, 0));
        StringBuilder late = new StringBuilder("bureau 0 0 1 9 9 0;office a 1 3 6;person x;");
        for (int i = 0; i < 10; i++) {
            late.append("pass 99;");
        }
        WaitingBureau last = Check.loaded(late + "pass 6;join x a;pass 3;claim x;");
        Check.same("isPaidFor(0, 995) at the last hours", false, last.isPaidFor(0, 995));
        for (int hour = 996; hour < 999; hour++) {
            Check.same("isPaidFor(0, " + hour + ") at the last hours", true, last.isPaidFor(0, hour));
        }
        Check.same("isPaidFor(0, 999) at the last hours", false, last.isPaidFor(0, 999));
    }
}
