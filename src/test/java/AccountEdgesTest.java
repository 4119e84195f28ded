/** The boundaries that promises 21 to 25 name. */
public final class AccountEdgesTest {
    private AccountEdgesTest() {
    }

    public static void main(String[] args) {
        debt();
        meanWait();
        repaid();
        repaidCountsHoursOnce();
        unluckiest();
        unluckiestCountsHoursOnce();
        lastHours();
        gap();
        Check.end("AccountEdgesTest");
    }

    private static void debt() {
        Check.promise(21);
        WaitingBureau bureau = Check.loaded("bureau 0 0 1 20 1 0;office a 1 3 9;person x;person y;join x a;pass 3;");
        Check.same("debt() without tokens", 0, bureau.debt());
        bureau.claim(0);
        Check.same("debt() of three held ones at PRICE 1", 3, bureau.debt());
        bureau.set(4, 99);
        Check.same("debt() of three held ones at PRICE 99", 297, bureau.debt());
        bureau.offer(0, 2);
        Check.same("debt() of two offered ones and a held one", 297, bureau.debt());
        bureau.give(0, 1, 1);
        Check.same("debt() of what is given away", 297, bureau.debt());
        bureau.deposit(99);
        Check.same("debt() of an offered one and a held one", 198, bureau.debt());
        bureau.deposit(99);
        Check.same("debt() of a held one", 99, bureau.debt());
        bureau.offer(1, 1);
        bureau.deposit(99);
        Check.same("debt() of paid ones", 0, bureau.debt());
        WaitingBureau full = Check.loaded(Texts.twoHundredTokens());
        full.set(4, 99);
        Check.same("debt() of 200 tokens at PRICE 99", 19800, full.debt());
    }

    private static void meanWait() {
        Check.promise(22);
        WaitingBureau bureau = Check.loaded("bureau 9 0 1 20 1 0;office a 1 1 9;office b 1 5 9;person x;person y;person z;"
                + "join x a;join y a;join x b;join z a;");
        Check.same("meanWait() of none", 0.0, bureau.meanWait());
        bureau.leave(3);
        Check.same("meanWait() of what left", 0.0, bureau.meanWait());
        bureau.pass(1);
        Check.same("meanWait() of 1", 1.0, bureau.meanWait());
        bureau.pass(1);
        Check.same("meanWait() of 1 and 2", 1.5, bureau.meanWait());
        bureau.pass(2);
        Check.same("meanWait() while x waits at b", 1.5, bureau.meanWait());
        bureau.pass(1);
        Check.same("meanWait() of 1, 2 and 5", 8.0 / 3.0, bureau.meanWait());
        bureau.join(1, 0);
        bureau.pass(1);
        Check.same("meanWait() of 1, 2, 5 and 1 from 5 to 6", 2.25, bureau.meanWait());
    }

    private static void repaid() {
        Check.promise(23);
        WaitingBureau bureau = Check.loaded("bureau 3 0 1 2 1 9;office a 1 3 9;person x;person y;person z;"
                + "join x a;join y a;join z a;");
        Check.same("repaid() of none", 0.0, bureau.repaid());
        bureau.pass(3);
        Check.same("repaid() of 3 hours with GRACE 3", 0.0, bureau.repaid());
        bureau.claim(0);
        Check.same("repaid() of a proven ticket without lost hours", 0.0, bureau.repaid());
        bureau.pass(3);
        bureau.leave(2);
        Check.same("repaid() of 0 of 3", 0.0, bureau.repaid());
        bureau.claim(1);
        Check.same("repaid() of 2 of 3", 2.0 / 3.0, bureau.repaid());
        bureau.offer(1, 2);
        Check.same("repaid() of paid ones", 2.0 / 3.0, bureau.repaid());
        bureau.set(0, 2);
        Check.same("repaid() of 2 of 5", 2.0 / 5.0, bureau.repaid());
        bureau.set(0, 5);
        Check.same("repaid() of 2 tokens and 1 hour", 2.0, bureau.repaid());
        bureau.set(0, 6);
        Check.same("repaid() of 2 tokens and no hour", 0.0, bureau.repaid());
        bureau.set(0, 3);
        bureau.pass(14);
        Check.same("repaid() of 3 of 3", 1.0, bureau.repaid());
    }

    private static void repaidCountsHoursOnce() {
        Check.promise(23);
        WaitingBureau bureau = Check.loaded("bureau 0 0 1 20 1 9;office a 4 3 9;office b 1 4 9;person x;person y;"
                + "join x a;join x b;join y a;pass 4;");
        bureau.claim(0);
        Check.same("repaid() of 3 of hours 0 to 3 of x and 0 to 2 of y", 3.0 / 7.0, bureau.repaid());
        bureau.claim(1);
        Check.same("repaid() of 4 of 7", 4.0 / 7.0, bureau.repaid());
        bureau.claim(2);
        Check.same("repaid() of 7 of 7", 1.0, bureau.repaid());
    }

    private static void unluckiest() {
        Check.promise(24);
        WaitingBureau bureau = Check.loaded("bureau 3 0 1 20 1 9;office a 1 3 9;office b 4 4 16;" + Texts.persons(16)
                + "join p a;join o a;join a b;pass 3;");
        bureau.leave(2);
        Check.same("unluckiest() without lost hours", WaitingBureau.NONE, bureau.unluckiest());
        bureau.set(0, 2);
        Check.same("unluckiest() of one hour of the last person", 15, bureau.unluckiest());
        bureau.pass(3);
        Check.same("unluckiest() of 4 and 1", 14, bureau.unluckiest());
        bureau.set(0, 6);
        Check.same("unluckiest() with a GRACE of 6", WaitingBureau.NONE, bureau.unluckiest());
        bureau.set(0, 5);
        Check.same("unluckiest() of one hour", 14, bureau.unluckiest());
        bureau.set(0, 0);
        bureau.join(0, 0);
        bureau.pass(3);
        bureau.join(0, 0);
        bureau.pass(2);
        Check.same("unluckiest() of 6 and 3", 14, bureau.unluckiest());
        bureau.pass(1);
        Check.same("unluckiest() of 6 and 3 + 3, the lowest one", 0, bureau.unluckiest());
    }

    /** x loses the hours 0 to 2 twice, y loses 0 to 3 once. */
    private static void unluckiestCountsHoursOnce() {
        Check.promise(24);
        WaitingBureau bureau = Check.loaded("bureau 0 0 1 20 1 9;office a 1 3 9;office b 1 3 9;office c 1 4 9;person x;"
                + "person y;join x a;join x b;join y c;pass 3;");
        Check.same("unluckiest() at 3", 0, bureau.unluckiest());
        bureau.pass(1);
        Check.same("unluckiest() at 4", 1, bureau.unluckiest());
    }

    /** The hours until the time 999; b has no token for them, and loses more than a, but not more than c. */
    private static void lastHours() {
        String text = "bureau 0 0 1 20 1 0;office a 2 5 9;office b 1 3 9;office c 1 1 1;" + Texts.persons(3) + Texts.pass(990)
                + "join a a;join b b;join c b;pass 5;claim a;";
        WaitingBureau bureau = Check.loaded(text + "pass 1;join c c;");
        Check.same("time", 996, bureau.count(3));
        Check.promise(12);
        Check.same("hours of a without a token", 0, bureau.person(0, 9));
        Check.same("hours of b without a token", 3, bureau.person(1, 9));
        Check.same("hours of c without a token", 6, bureau.person(2, 9));
        Check.promise(24);
        Check.same("unluckiest() at 996", 2, bureau.unluckiest());
        Check.promise(23);
        Check.same("repaid() at 996", 5.0 / 14.0, bureau.repaid());
        bureau.pass(3);
        Check.same("repaid() at 999", 5.0 / 15.0, bureau.repaid());
        Check.promise(12);
        Check.same("hours of c without a token at 999", 7, bureau.person(2, 9));
        WaitingBureau last = Check.loaded("bureau 0 0 1 20 1 0;office a 1 1 9;person x;" + Texts.pass(998) + "join x a;pass 1;");
        Check.same("the hour 998 of x without a token", 1, last.person(0, 9));
        Check.promise(24);
        Check.same("unluckiest() of the hour 998", 0, last.unluckiest());
        Check.promise(23);
        Check.same("repaid() of the hour 998", 0.0, last.repaid());
        last.claim(0);
        Check.same("repaid() of the hour 998 with a token", 1.0, last.repaid());
        Check.promise(15);
        Check.same("isPaidFor(0, 998)", true, last.isPaidFor(0, 998));
        Check.same("isPaidFor(0, 999)", false, last.isPaidFor(0, 999));
    }

    private static void gap() {
        Check.promise(25);
        Check.same("gap() without tokens", 0, new WaitingBureau().gap());
        WaitingBureau full = Check.loaded(Texts.twoHundredTokens());
        Check.same("gap() of 200 held tokens", 0, full.gap());
        full.offer(0, 6);
        full.offer(1, 1);
        Check.same("gap() with offered tokens", 0, full.gap());
        full.deposit(3);
        Check.same("gap() with paid tokens", 0, full.gap());
    }
}
