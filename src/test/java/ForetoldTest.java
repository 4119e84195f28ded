/** Promises 26 to 31: what will happen. */
public final class ForetoldTest {
    private ForetoldTest() {
    }

    public static void main(String[] args) {
        servedIn();
        queueIn();
        tokensIn();
        tokensInStopsAtTheLimit();
        servedIf();
        bestOffice();
        longestIfMerged();
        beyondTheLastTime();
        Check.end("ForetoldTest");
    }

    private static WaitingBureau example() {
        return Check.loaded("bureau 1 1 2 5 3 0;office a 2 3 6;office b 1 6 6;person x;person y;person z;person u;"
                + "person v;pass 1;join x a;join y a;join z a;join u a;join v a;join x b;join y b;");
    }

    private static void servedIn() {
        Check.promise(26);
        WaitingBureau bureau = example();
        int[] due = {2, 2, 5, 5, 8, 5, 11};
        for (int ticket = 0; ticket < due.length; ticket++) {
            Check.same("servedIn(" + ticket + ") at 1", due[ticket], bureau.servedIn(ticket));
        }
        bureau.pass(2);
        Check.same("servedIn(0) of a served one", 0, bureau.servedIn(0));
        Check.same("servedIn(2) at 3", 3, bureau.servedIn(2));
        bureau.leave(3);
        Check.noElement("servedIn(3) of one that left", () -> bureau.servedIn(3));
        Check.same("servedIn(4) when one ahead left", 3, bureau.servedIn(4));
        Check.outOfBounds("servedIn(7)", () -> bureau.servedIn(7));
        Check.outOfBounds("servedIn(-1)", () -> bureau.servedIn(-1));
        Check.same("time", 3, bureau.count(3));
        Check.same("waiting tickets", 4, bureau.count(5));
    }

    private static void queueIn() {
        Check.promise(27);
        WaitingBureau bureau = example();
        int[] due = {5, 5, 3, 3, 3, 1, 1, 1, 0, 0};
        for (int hours = 0; hours < due.length; hours++) {
            Check.same("queueIn(0, " + hours + ")", due[hours], bureau.queueIn(0, hours));
        }
        Check.same("queueIn(1, 10)", 1, bureau.queueIn(1, 10));
        Check.same("queueIn(1, 200)", 0, bureau.queueIn(1, 200));
        Check.badArgument("queueIn(1, 201)", () -> bureau.queueIn(1, 201));
        Check.badArgument("queueIn(1, -1)", () -> bureau.queueIn(1, -1));
        Check.outOfBounds("queueIn(2, -1)", () -> bureau.queueIn(2, -1));
        Check.outOfBounds("queueIn(-1, 0)", () -> bureau.queueIn(-1, 0));
        bureau.merge(1, 0);
        Check.same("queueIn(1, 0) of a closed one", 0, bureau.queueIn(1, 0));
    }

    private static void tokensIn() {
        Check.promise(28);
        WaitingBureau bureau = Check.loaded("bureau 0 0 1 4 3 0;office a 2 6 6;person x;person y;person z;"
                + "join x a;join y a;join z a;pass 12;claim x;claim z;");
        int[][] due = {{0, 8}, {7, 8}, {8, 14}, {27, 14}, {28, 18}, {47, 18}, {48, 18}, {200, 18}};
        for (int[] hoursAndTokens : due) {
            Check.same("tokensIn(" + hoursAndTokens[0] + ")", hoursAndTokens[1], bureau.tokensIn(hoursAndTokens[0]));
        }
        Check.badArgument("tokensIn(201)", () -> bureau.tokensIn(201));
        Check.badArgument("tokensIn(-1)", () -> bureau.tokensIn(-1));
        bureau.set(3, 20);
        Check.same("tokensIn(7) with another CAP", 8, bureau.tokensIn(7));
        Check.same("tokensIn(8) with another CAP", 18, bureau.tokensIn(8));
        Check.same("tokens still", 8, bureau.count(8));
        Check.same("isPaidFor(0, 4) still", false, bureau.isPaidFor(0, 4));
        Check.same("tokens made in this week still", 4, bureau.person(0, 7));
        bureau.pass(8);
        Check.same("tokens then", 18, bureau.count(8));
    }

    private static void tokensInStopsAtTheLimit() {
        Check.promise(28);
        StringBuilder text = new StringBuilder("bureau 0 0 1 9 3 0;office a 4 6 20;");
        for (char name = 'a'; name < 'q'; name++) {
            text.append("person ").append(name).append(";");
        }
        for (char name = 'a'; name < 'q'; name++) {
            text.append("join ").append(name).append(" a;");
        }
        text.append("pass 24;");
        for (char name = 'a'; name < 'q'; name++) {
            text.append("claim ").append(name).append(";");
        }
        WaitingBureau bureau = Check.loaded(text.toString());
        Check.same("tokens", 4 * 6 + 12 * 9, bureau.count(8));
        Check.same("tokensIn(15)", 132, bureau.tokensIn(15));
        Check.same("tokensIn(16)", 200, bureau.tokensIn(16));
    }

    private static void servedIf() {
        Check.promise(29);
        WaitingBureau bureau = example();
        Check.same("servedIf(0)", 8, bureau.servedIf(0));
        Check.same("servedIf(1) of an office where x waits", 17, bureau.servedIf(1));
        WaitingBureau full = Check.loaded("bureau 0 0 1 4 3 0;office a 1 1 1;person x;join x a;");
        Check.same("servedIf(0) of a full queue", 2, full.servedIf(0));
        full.pass(1);
        Check.same("servedIf(0) of an empty queue", 1, full.servedIf(0));
        Check.outOfBounds("servedIf(1)", () -> full.servedIf(1));
        Check.outOfBounds("servedIf(-1)", () -> full.servedIf(-1));
        bureau.merge(0, 1);
        Check.noElement("servedIf(0) of a closed one", () -> bureau.servedIf(0));
    }

    private static void bestOffice() {
        Check.promise(30);
        WaitingBureau bureau = Check.loaded(
                "bureau 0 0 1 4 3 0;office a 1 4 6;office b 1 2 6;office c 2 2 6;person x;person y;");
        Check.same("bestOffice(), the lowest of b and c", 1, bureau.bestOffice());
        bureau.join(0, 1);
        Check.same("bestOffice() when x waits at b", 2, bureau.bestOffice());
        bureau.join(0, 2);
        bureau.join(1, 2);
        Check.same("bestOffice() of three with four hours", 0, bureau.bestOffice());
        bureau.pass(1);
        bureau.merge(0, 1);
        Check.same("bestOffice() without a", 1, bureau.bestOffice());
        bureau.merge(1, 2);
        Check.same("bestOffice() with c alone", 2, bureau.bestOffice());
    }

    private static void longestIfMerged() {
        Check.promise(31);
        WaitingBureau bureau = Check.loaded("bureau 1 1 2 5 3 0;office a 1 2 6;office b 1 3 6;office c 1 6 6;person x;"
                + "person y;person z;person u;");
        Check.same("longestIfMerged(0, 1) without tickets", 0, bureau.longestIfMerged(0, 1));
        bureau.join(0, 0);
        Check.same("longestIfMerged(0, 1) of one ticket", 3, bureau.longestIfMerged(0, 1));
        bureau.join(1, 0);
        bureau.join(1, 1);
        bureau.join(2, 1);
        // In b: y, z, x, as the other y leaves; in a: x ahead of y and z, as those of b come first: y, z, x.
        Check.same("longestIfMerged(0, 1)", 9, bureau.longestIfMerged(0, 1));
        Check.same("longestIfMerged(1, 0)", 6, bureau.longestIfMerged(1, 0));
        bureau.join(3, 2);
        bureau.join(2, 2);
        Check.same("longestIfMerged(1, 0) with those of c", 12, bureau.longestIfMerged(1, 0));
        bureau.pass(1);
        Check.same("longestIfMerged(1, 0) at 1", 12, bureau.longestIfMerged(1, 0));
        Check.badState("longestIfMerged(1, 1)", () -> bureau.longestIfMerged(1, 1));
        Check.outOfBounds("longestIfMerged(1, 3)", () -> bureau.longestIfMerged(1, 3));
        Check.outOfBounds("longestIfMerged(-1, -1)", () -> bureau.longestIfMerged(-1, -1));
        Check.outOfBounds("longestIfMerged(3, 3)", () -> bureau.longestIfMerged(3, 3));
        Check.same("waiting tickets still", 6, bureau.count(5));
        Check.same("whether a is open still", 1, bureau.office(0, 3));
        bureau.merge(0, 2);
        Check.badState("longestIfMerged(0, 1) of a closed one", () -> bureau.longestIfMerged(0, 1));
        Check.badState("longestIfMerged(1, 0) with a closed one", () -> bureau.longestIfMerged(1, 0));
    }

    private static void beyondTheLastTime() {
        Check.terms("what is foretold goes on beyond 999");
        StringBuilder text = new StringBuilder("bureau 0 0 1 4 3 0;office a 1 6 6;office b 1 6 9;person x;person y;");
        for (int i = 0; i < 10; i++) {
            text.append("pass 99;");
        }
        WaitingBureau bureau = Check.loaded(text + "join x b;pass 6;claim x;join x a;join y a;join x b;pass 3;");
        Check.same("time", 999, bureau.count(3));
        Check.same("servedIn(2)", 9, bureau.servedIn(2));
        Check.same("queueIn(0, 3)", 1, bureau.queueIn(0, 3));
        Check.same("servedIf(0)", 15, bureau.servedIf(0));
        Check.same("longestIfMerged(0, 1)", 12, bureau.longestIfMerged(0, 1));
        Check.same("tokensIn(0)", 4, bureau.tokensIn(0));
        Check.same("tokensIn(1)", 6, bureau.tokensIn(1));
        Check.same("tokensIn(200)", 6, bureau.tokensIn(200));
        Check.badState("pass(1)", () -> bureau.pass(1));
    }
}
