/** Promises 21 to 25: the accounts. */
public final class AccountTest {
    private AccountTest() {
    }

    public static void main(String[] args) {
        debt();
        meanWait();
        repaid();
        unluckiest();
        gap();
        Check.end("AccountTest");
    }

    private static void debt() {
        Check.promise(21);
        WaitingBureau bureau = Check.loaded(
                "bureau 0 0 1 9 7 8;office a 1 4 6;person x;join x a;pass 4;");
        Check.same("debt() without tokens", 0, bureau.debt());
        bureau.claim(0);
        Check.same("debt() of four held tokens", 28, bureau.debt());
        bureau.offer(0, 2);
        Check.same("debt() with an offered and a paid one", 21, bureau.debt());
        bureau.set(4, 99);
        Check.same("debt() with PRICE 99", 297, bureau.debt());
    }

    private static void meanWait() {
        Check.promise(22);
        WaitingBureau bureau = Check.loaded(
                "bureau 0 0 1 9 7 0;office a 1 2 6;office b 1 1 6;person x;person y;person z;join x a;join y a;join z a;");
        Check.same("meanWait() without any", 0.0, bureau.meanWait());
        bureau.pass(1);
        bureau.leave(2);
        Check.same("meanWait() without served ones", 0.0, bureau.meanWait());
        bureau.pass(1);
        Check.same("meanWait() of one", 2.0, bureau.meanWait());
        bureau.pass(2);
        bureau.join(0, 1);
        bureau.join(1, 0);
        bureau.pass(1);
        Check.same("meanWait() of three", 7.0 / 3.0, bureau.meanWait());
        bureau.set(0, 9);
        Check.same("meanWait() with another GRACE", 7.0 / 3.0, bureau.meanWait());
    }

    private static void repaid() {
        Check.promise(23);
        WaitingBureau bureau = Check.loaded(
                "bureau 1 0 1 2 7 0;office a 1 3 6;office b 1 4 6;person x;person y;join x a;join x b;join y a;");
        bureau.pass(2);
        Check.same("repaid() without served ones", 0.0, bureau.repaid());
        bureau.pass(4);
        Check.same("repaid() without tokens", 0.0, bureau.repaid());
        bureau.claim(0);
        Check.same("repaid() with two tokens of hours 1, 2, 3 of x and 1 to 5 of y", 2.0 / 8.0, bureau.repaid());
        bureau.set(0, 5);
        Check.same("repaid() with more tokens than hours", 2.0 / 1.0, bureau.repaid());
        bureau.set(0, 9);
        Check.same("repaid() without lost hours", 0.0, bureau.repaid());
    }

    private static void unluckiest() {
        Check.promise(24);
        WaitingBureau bureau = Check.loaded("bureau 0 0 1 2 7 0;office a 1 3 6;office b 1 4 6;person x;person y;person z;"
                + "join y a;join y b;join z b;pass 2;");
        Check.same("unluckiest() without served ones", WaitingBureau.NONE, bureau.unluckiest());
        bureau.pass(2);
        Check.same("unluckiest() at 4", 1, bureau.unluckiest());
        bureau.leave(2);
        bureau.join(0, 1);
        bureau.pass(4);
        Check.same("unluckiest() of hours 0 to 3 of y and 4 to 7 of x, the lowest one", 0, bureau.unluckiest());
        bureau.join(2, 0);
        bureau.pass(4);
        Check.same("unluckiest() of tickets in a row", 0, bureau.unluckiest());
        bureau.join(2, 1);
        bureau.pass(4);
        Check.same("unluckiest() with two tickets of z apart", 2, bureau.unluckiest());
        bureau.set(0, 9);
        Check.same("unluckiest() without lost hours", WaitingBureau.NONE, bureau.unluckiest());
        WaitingBureau one = Check.loaded("bureau 0 0 1 2 7 0;office a 1 1 6;person x;person y;join y a;pass 1;");
        Check.same("unluckiest() of one hour", 1, one.unluckiest());
        WaitingBureau once = Check.loaded("bureau 0 0 1 2 7 0;office a 1 3 6;office b 1 3 6;office c 1 4 6;"
                + "person x;person y;join x a;join x b;join y c;pass 4;");
        Check.same("unluckiest() when hours count once", 1, once.unluckiest());
    }

    private static void gap() {
        Check.promise(25);
        WaitingBureau bureau = Check.loaded(
                "bureau 0 0 1 9 7 8;office a 1 4 6;office b 1 5 6;person x;person y;join x a;join x b;join y b;");
        Check.same("gap() without tokens", 0, bureau.gap());
        bureau.pass(10);
        bureau.claim(0);
        bureau.claim(1);
        bureau.claim(2);
        bureau.give(0, 1, 1);
        bureau.offer(1, 3);
        Check.same("tokens", 14, bureau.count(8));
        Check.same("gap()", 0, bureau.gap());
    }
}
