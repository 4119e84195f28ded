/** Promises 16 to 20 and 37, 38: claims, witnesses, and the tokens that they make. */
public final class WitnessTest {
    private WitnessTest() {
    }

    public static void main(String[] args) {
        reasonsInTheirOrder();
        reasonsOfTheWeek();
        common();
        witnessFor();
        isWitness();
        worth();
        worthAtTheLimits();
        claim();
        witness();
        changedNeed();
        Check.end("WitnessTest");
    }

    /** NEED 2, OVERLAP 2; x, y, z are served at a at 2, 4 and 6, u at 8; v waits at b alone. */
    private static WaitingBureau example() {
        return Check.loaded("bureau 1 2 2 5 3 0;office a 1 2 6;office b 1 6 6;person x;person y;person z;person u;"
                + "person v;join x a;join y a;join z a;join u a;join v b;pass 8;");
    }

    private static void reasonsInTheirOrder() {
        Check.promise(16);
        WaitingBureau bureau = example();
        Check.same("whyNot of an unclaimed ticket", 1, bureau.whyNot(2, 0));
        Check.same("whyNot of an unclaimed own ticket", 1, bureau.whyNot(2, 2));
        bureau.claim(2);
        Check.same("whyNot of an own ticket", 3, bureau.whyNot(2, 2));
        Check.same("whyNot of who waited elsewhere", 5, bureau.whyNot(2, 4));
        Check.same("whyNot of who waited for OVERLAP", 0, bureau.whyNot(2, 0));
        bureau.set(2, 3);
        Check.same("whyNot of who waited for less", 5, bureau.whyNot(2, 0));
        bureau.set(2, 2);
        bureau.witness(2, 0);
        Check.same("whyNot of a witness", 4, bureau.whyNot(2, 0));
        bureau.set(2, 9);
        Check.same("whyNot of a witness ahead of OVERLAP", 4, bureau.whyNot(2, 0));
        bureau.set(2, 2);
        bureau.witness(2, 1);
        Check.same("whyNot of a witness when it is proven", 2, bureau.whyNot(2, 0));
        Check.same("whyNot of an own ticket that is proven", 2, bureau.whyNot(2, 2));
        Check.same("whyNot of others when it is proven", 2, bureau.whyNot(2, 3));
        Check.outOfBounds("whyNot(5, 0)", () -> bureau.whyNot(5, 0));
        Check.outOfBounds("whyNot(-1, 0)", () -> bureau.whyNot(-1, 0));
        Check.outOfBounds("whyNot(0, 5)", () -> bureau.whyNot(0, 5));
        Check.outOfBounds("whyNot(0, -1)", () -> bureau.whyNot(0, -1));
    }

    private static void reasonsOfTheWeek() {
        Check.promise(16);
        WaitingBureau bureau = Check.loaded("bureau 0 3 1 5 3 0;office a 4 1 9;office b 2 3 9;person x;person y;"
                + "person z;person u;person v;join x b;join y b;join z b;join u b;join v b;pass 9;");
        for (int ticket = 0; ticket < 5; ticket++) {
            bureau.claim(ticket);
        }
        bureau.witness(1, 0);
        Check.same("whyNot of who was helped", 7, bureau.whyNot(0, 1));
        Check.same("whyNot of another one", 0, bureau.whyNot(0, 2));
        Check.same("whyNot of the helper again", 0, bureau.whyNot(2, 0));
        bureau.witness(2, 0);
        Check.same("times as a witness", 2, bureau.person(0, 8));
        bureau.witness(3, 0);
        Check.same("whyNot of who was a witness three times", 6, bureau.whyNot(4, 0));
        Check.same("whyNot of a witness three times of this ticket", 4, bureau.whyNot(3, 0));
        bureau.witness(4, 1);
        Check.same("whyNot, 7", 7, bureau.whyNot(1, 4));
        Check.same("whyNot of who was helped by another one", 0, bureau.whyNot(4, 2));
        bureau.pass(10);
        Check.same("whyNot at 19", 6, bureau.whyNot(4, 0));
        Check.same("whyNot at 19, 7", 7, bureau.whyNot(0, 1));
        bureau.pass(1);
        Check.same("whyNot in the new week", 0, bureau.whyNot(4, 0));
        Check.same("whyNot in the new week, 7", 0, bureau.whyNot(0, 1));
        Check.same("whyNot in the new week, 4", 4, bureau.whyNot(1, 0));
        bureau.witness(4, 0);
        Check.same("times as a witness in the new week", 1, bureau.person(0, 8));
    }

    private static void common() {
        Check.promise(17);
        WaitingBureau bureau = Check.loaded("bureau 1 2 2 5 3 0;office a 1 6 6;office b 1 6 6;person x;person y;"
                + "person z;pass 1;join x a;pass 2;join y a;pass 1;join z b;pass 3;");
        Check.same("common(0, 1) of one who waits", 3, bureau.common(0, 1));
        Check.same("common(1, 0)", 3, bureau.common(1, 0));
        Check.same("common(0, 2) of another office", 0, bureau.common(0, 2));
        Check.same("common(0, 0) without another ticket", 0, bureau.common(0, 0));
        bureau.leave(1);
        bureau.pass(5);
        bureau.join(1, 0);
        bureau.pass(1);
        Check.same("common(0, 1) of the one that left", 3, bureau.common(0, 1));
        Check.same("common(3, 0) without common hours", 0, bureau.common(3, 0));
        Check.same("common(1, 1) of two tickets apart", 0, bureau.common(1, 1));
        WaitingBureau merged = Check.loaded("bureau 1 2 2 5 3 0;office a 1 6 6;office b 1 6 6;person x;"
                + "join x a;pass 1;join x b;pass 3;");
        Check.same("common(0, 0) of two offices", 0, merged.common(0, 0));
        merged.merge(1, 0);
        merged.pass(1);
        Check.same("common(0, 0) of two tickets at one office", 3, merged.common(0, 0));
        Check.same("common(1, 0) of two tickets at one office", 3, merged.common(1, 0));
        Check.outOfBounds("common(2, 0)", () -> merged.common(2, 0));
        Check.outOfBounds("common(-1, 0)", () -> merged.common(-1, 0));
        Check.outOfBounds("common(0, 1)", () -> merged.common(0, 1));
        Check.outOfBounds("common(0, -1)", () -> merged.common(0, -1));
    }

    private static void witnessFor() {
        Check.promise(18);
        WaitingBureau bureau = example();
        Check.noElement("witnessFor(2, 0) of an unclaimed ticket", () -> bureau.witnessFor(2, 0));
        bureau.claim(2);
        int[] due = {0, 1, 3};
        for (int place = 0; place < 3; place++) {
            Check.same("witnessFor(2, " + place + ")", due[place], bureau.witnessFor(2, place));
        }
        Check.noElement("witnessFor(2, 3)", () -> bureau.witnessFor(2, 3));
        Check.noElement("witnessFor(2, -1)", () -> bureau.witnessFor(2, -1));
        Check.outOfBounds("witnessFor(5, 0)", () -> bureau.witnessFor(5, 0));
        Check.outOfBounds("witnessFor(-1, -1)", () -> bureau.witnessFor(-1, -1));
        bureau.witness(2, 1);
        Check.same("witnessFor(2, 1) after witness(2, 1)", 3, bureau.witnessFor(2, 1));
    }

    private static void isWitness() {
        Check.promise(19);
        WaitingBureau bureau = example();
        bureau.claim(2);
        bureau.claim(1);
        bureau.witness(2, 3);
        for (int person = 0; person < 5; person++) {
            Check.same("isWitness(2, " + person + ")", person == 3, bureau.isWitness(2, person));
            Check.same("isWitness(1, " + person + ")", false, bureau.isWitness(1, person));
        }
        Check.outOfBounds("isWitness(5, 0)", () -> bureau.isWitness(5, 0));
        Check.outOfBounds("isWitness(-1, 0)", () -> bureau.isWitness(-1, 0));
        Check.outOfBounds("isWitness(0, 5)", () -> bureau.isWitness(0, 5));
        Check.outOfBounds("isWitness(0, -1)", () -> bureau.isWitness(0, -1));
    }

    private static void worth() {
        Check.promise(20);
        WaitingBureau bureau = Check.loaded("bureau 1 0 2 4 3 0;office a 1 6 6;office b 1 1 6;person x;person y;"
                + "join x a;join y a;pass 3;join x b;pass 2;");
        Check.same("worth(0) of one who waits", 0, bureau.worth(0));
        Check.same("worth(2) of a short wait", 0, bureau.worth(2));
        bureau.pass(1);
        Check.same("worth(0) of five hours with CAP 4", 4, bureau.worth(0));
        bureau.set(3, 9);
        Check.same("worth(0) of five hours with CAP 9", 5, bureau.worth(0));
        bureau.set(0, 3);
        Check.same("worth(0) with GRACE 3", 3, bureau.worth(0));
        bureau.set(0, 9);
        Check.same("worth(0) with GRACE 9", 0, bureau.worth(0));
        bureau.set(0, 1);
        bureau.leave(1);
        Check.same("worth(1) of one that left", 0, bureau.worth(1));
        bureau.set(3, 2);
        Check.same("claim(0)", 2, bureau.claim(0));
        Check.same("worth(0) at CAP", 0, bureau.worth(0));
        bureau.set(3, 1);
        Check.same("worth(0) above CAP", 0, bureau.worth(0));
        bureau.set(3, 4);
        Check.same("worth(0) of a proven one", 2, bureau.worth(0));
        bureau.set(3, 20);
        Check.same("worth(0) of a proven one without CAP", 3, bureau.worth(0));
        Check.outOfBounds("worth(3)", () -> bureau.worth(3));
        Check.outOfBounds("worth(-1)", () -> bureau.worth(-1));
    }

    /** Sixteen persons wait together, so that their hours are more than 200. */
    private static void worthAtTheLimits() {
        Check.promise(20);
        StringBuilder text = new StringBuilder("bureau 0 0 1 20 9 0;office a 4 6 20;");
        for (char name = 'a'; name < 'q'; name++) {
            text.append("person ").append(name).append(";");
        }
        for (char name = 'p'; name >= 'a'; name--) {
            text.append("join ").append(name).append(" a;");
        }
        WaitingBureau bureau = Check.loaded(text + "pass 24;");
        int made = 0;
        for (int ticket = 0; ticket < 15; ticket++) {
            made += bureau.claim(ticket);
        }
        // Without the limit they would be 4 * 6 + 4 * 12 + 4 * 18 + 3 * 20, four more.
        Check.same("tokens of 15 tickets", 200, made);
        Check.same("count(8)", 200, bureau.count(8));
        Check.same("worth(15) at 200 tokens", 0, bureau.worth(15));
        Check.same("claim(15) at 200 tokens", 0, bureau.claim(15));
        Check.same("tokensIn(200)", 200, bureau.tokensIn(200));
        bureau.undo();
        bureau.undo();
        Check.same("tokens without the 15th ticket", 184, bureau.count(8));
        Check.same("worth(15) at 184 tokens", 16, bureau.worth(15));
        bureau.set(3, 15);
        Check.same("worth(15) at 184 tokens with CAP 15", 15, bureau.worth(15));
        Check.same("claim(15) with CAP 15", 15, bureau.claim(15));
        Check.same("claim(14) with room for one", 1, bureau.claim(14));
        Check.same("the last token", 14, bureau.token(199, 1));
        bureau.pass(16);
        Check.same("count(8) in the new week", 200, bureau.count(8));
    }

    private static void claim() {
        Check.promise(37);
        WaitingBureau bureau = Check.loaded("bureau 0 0 2 4 3 0;office a 1 3 6;office b 1 5 6;person x;person y;"
                + "join x a;join y b;join x b;pass 2;");
        Check.badState("claim(0) of one who waits", () -> bureau.claim(0));
        bureau.leave(2);
        Check.badState("claim(2) of one that left", () -> bureau.claim(2));
        bureau.pass(3);
        Check.same("claim(0)", 3, bureau.claim(0));
        Check.same("whether it is proven", 1, bureau.ticket(0, 6));
        Check.badState("claim(0) again", () -> bureau.claim(0));
        bureau.set(1, 1);
        Check.same("claim(1) with NEED 1", 0, bureau.claim(1));
        Check.same("whether it is claimed", 1, bureau.ticket(1, 5));
        Check.same("whether it is proven", 0, bureau.ticket(1, 6));
        Check.badState("claim(1) again", () -> bureau.claim(1));
        Check.same("changes", 5, bureau.count(12));
        Check.outOfBounds("claim(3)", () -> bureau.claim(3));
        Check.outOfBounds("claim(-1)", () -> bureau.claim(-1));
        WaitingBureau twice = Check.loaded("bureau 0 0 2 9 3 0;office a 1 3 6;office b 1 5 6;person x;"
                + "join x a;join x b;pass 5;");
        Check.same("claim(0) for three hours", 3, twice.claim(0));
        Check.same("claim(1) for the hours left", 2, twice.claim(1));
        Check.same("the hour of the fourth token", 3, twice.token(3, 2));
        Check.same("the ticket of the fourth token", 1, twice.token(3, 1));
    }

    private static void witness() {
        Check.promise(38);
        WaitingBureau bureau = example();
        Check.badState("witness of an unclaimed ticket", () -> bureau.witness(2, 0));
        bureau.claim(2);
        Check.badState("witness of an own ticket", () -> bureau.witness(2, 2));
        Check.badState("witness from another office", () -> bureau.witness(2, 4));
        Check.same("witness(2, 0), the first of two", 0, bureau.witness(2, 0));
        Check.same("witnesses", 1, bureau.ticket(2, 7));
        Check.badState("witness(2, 0) again", () -> bureau.witness(2, 0));
        Check.same("witness(2, 3), the last one", 5, bureau.witness(2, 3));
        Check.same("whether it is proven", 1, bureau.ticket(2, 6));
        Check.same("tokens of z", 5, bureau.person(2, 3));
        Check.badState("witness of a proven ticket", () -> bureau.witness(2, 1));
        Check.same("witnesses", 2, bureau.ticket(2, 7));
        Check.outOfBounds("witness(5, 0)", () -> bureau.witness(5, 0));
        Check.outOfBounds("witness(-1, 0)", () -> bureau.witness(-1, 0));
        Check.outOfBounds("witness(0, 5)", () -> bureau.witness(0, 5));
        Check.outOfBounds("witness(0, -1)", () -> bureau.witness(0, -1));
    }

    private static void changedNeed() {
        Check.promise(45);
        WaitingBureau bureau = example();
        bureau.claim(2);
        bureau.witness(2, 0);
        Check.same("set(1, 1)", 2, bureau.set(1, 1));
        Check.same("whether it is proven by the new NEED", 0, bureau.ticket(2, 6));
        Check.same("set(1, 0)", 1, bureau.set(1, 0));
        Check.same("whether it is proven by NEED 0", 0, bureau.ticket(2, 6));
        bureau.pass(12);
        Check.same("tokens in the new week", 0, bureau.count(8));
        Check.same("witness(2, 1), its next one", 5, bureau.witness(2, 1));
        Check.same("whether it is proven", 1, bureau.ticket(2, 6));
        bureau.set(1, 3);
        Check.same("whether it stays proven", 1, bureau.ticket(2, 6));
        bureau.claim(3);
        Check.same("witness(3, 0)", 0, bureau.witness(3, 0));
        Check.same("witness(3, 1)", 0, bureau.witness(3, 1));
        Check.same("whether two of three are enough", 0, bureau.ticket(3, 6));
        Check.same("witness(3, 2)", 5, bureau.witness(3, 2));
        Check.same("witnesses", 3, bureau.ticket(3, 7));
    }
}
