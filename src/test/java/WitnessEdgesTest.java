/** The boundaries that promises 16 to 20, 37 and 38 name, and those of claims, witnesses and tokens in the "Terms". */
public final class WitnessEdgesTest {
    private static final Class<?> BOUNDS = IndexOutOfBoundsException.class;

    private WitnessEdgesTest() {
    }

    public static void main(String[] args) {
        ranges();
        firstReason();
        firstReasonInAnotherWeek();
        otherNumbers();
        overlap();
        overlapInAnyState();
        overlapOfOneTicket();
        overlapOfMergedOffices();
        thirdAndFourthTime();
        helpedInThisWeek();
        common();
        commonToThePresentTime();
        commonOfTwoOwnTickets();
        witnessFor();
        isWitness();
        worth();
        worthAndTheCap();
        claim();
        neededWitnesses();
        changedNeed();
        cap();
        capOfSeveralTickets();
        capInTheNewWeek();
        noHourTwice();
        order();
        twoHundredTokens();
        Check.end("WitnessEdgesTest");
    }

    /** Sixty tickets of ten persons; the eleventh person has none. */
    private static WaitingBureau sixty() {
        return Check.loaded(Texts.sixtyTickets());
    }

    private static void ranges() {
        Check.promise(16);
        Check.range("whyNot(.., 0)", BOUNDS, 0, 59, ticket -> sixty().whyNot(ticket, 0));
        Check.range("whyNot(0, ..)", BOUNDS, 0, 10, person -> sixty().whyNot(0, person));
        Check.range("whyNot(59, ..)", BOUNDS, 0, 10, person -> sixty().whyNot(59, person));
        Check.promise(17);
        Check.range("common(.., 0)", BOUNDS, 0, 59, ticket -> sixty().common(ticket, 0));
        Check.range("common(0, ..)", BOUNDS, 0, 10, person -> sixty().common(0, person));
        Check.promise(18);
        Check.outOfBounds("witnessFor(60, 0)", () -> sixty().witnessFor(60, 0));
        Check.outOfBounds("witnessFor(-1, 0)", () -> sixty().witnessFor(-1, 0));
        Check.noElement("witnessFor(59, 0)", () -> sixty().witnessFor(59, 0));
        Check.noElement("witnessFor(0, 0)", () -> sixty().witnessFor(0, 0));
        Check.promise(19);
        Check.range("isWitness(.., 0)", BOUNDS, 0, 59, ticket -> sixty().isWitness(ticket, 0));
        Check.range("isWitness(0, ..)", BOUNDS, 0, 10, person -> sixty().isWitness(0, person));
        Check.promise(20);
        Check.range("worth()", BOUNDS, 0, 59, ticket -> sixty().worth(ticket));
        Check.promise(37);
        Check.outOfBounds("claim(60)", () -> sixty().claim(60));
        Check.outOfBounds("claim(-1)", () -> sixty().claim(-1));
        Check.badState("claim(59)", () -> sixty().claim(59));
        Check.promise(38);
        Check.outOfBounds("witness(60, 0)", () -> sixty().witness(60, 0));
        Check.outOfBounds("witness(-1, 0)", () -> sixty().witness(-1, 0));
        Check.outOfBounds("witness(0, 11)", () -> sixty().witness(0, 11));
        Check.outOfBounds("witness(0, -1)", () -> sixty().witness(0, -1));
        Check.badState("witness(59, 10)", () -> sixty().witness(59, 10));
    }

    // ---- the reasons

    /** whyNot(), witnessFor() and witness() agree on a reason. */
    private static void reason(WaitingBureau bureau, int due, int ticket, int person) {
        String call = "(" + ticket + ", " + person + ")";
        Check.promise(16);
        Check.same("whyNot" + call, due, bureau.whyNot(ticket, person));
        Check.promise(18);
        boolean isNamed = false;
        for (int i = 0; i < bureau.count(1); i++) {
            int place = i;
            isNamed |= Check.outcome(() -> bureau.witnessFor(ticket, place)).equals(person);
        }
        Check.same("whether witnessFor(" + ticket + ", ..) names " + person, due == 0, isNamed);
        Check.promise(38);
        if (due == 0) {
            bureau.witness(ticket, person);
            Check.same("whether witness" + call + " makes one", true, bureau.isWitness(ticket, person));
            bureau.undo();
        } else {
            Check.badState("witness" + call, () -> bureau.witness(ticket, person));
        }
    }

    private static void firstReason() {
        WaitingBureau bureau = Check.loaded("bureau 0 2 2 9 1 0;office a 4 2 9;office b 1 2 9;" + Texts.persons(7)
                + Texts.joins(6, "a") + "join g b;pass 6;");
        reason(bureau, 1, 0, 0);
        reason(bureau, 1, 0, 1);
        reason(bureau, 1, 0, 6);
        for (int ticket = 0; ticket < 6; ticket++) {
            bureau.claim(ticket);
        }
        reason(bureau, 3, 0, 0);
        reason(bureau, 0, 0, 1);
        reason(bureau, 5, 0, 6);
        bureau.set(2, 9);
        reason(bureau, 3, 0, 0);
        reason(bureau, 5, 0, 1);
        bureau.set(2, 2);
        bureau.witness(1, 0);
        reason(bureau, 4, 1, 0);
        reason(bureau, 7, 0, 1);
        bureau.set(2, 3);
        reason(bureau, 4, 1, 0);
        reason(bureau, 5, 0, 1);
        bureau.set(2, 2);
        bureau.witness(2, 0);
        bureau.witness(3, 0);
        reason(bureau, 6, 4, 0);
        reason(bureau, 4, 3, 0);
        reason(bureau, 3, 0, 0);
        bureau.set(2, 3);
        reason(bureau, 5, 4, 0);
        bureau.set(2, 2);
        bureau.witness(2, 1);
        reason(bureau, 2, 2, 0);
        reason(bureau, 2, 2, 2);
        reason(bureau, 2, 2, 3);
        reason(bureau, 2, 2, 6);
        bureau.witness(3, 1);
        bureau.witness(4, 1);
        reason(bureau, 6, 0, 1);
    }

    /** In the new week a is a witness of b, who was a witness of a in the week before. */
    private static void firstReasonInAnotherWeek() {
        WaitingBureau bureau = Check.loaded("bureau 0 3 2 9 1 0;office a 4 2 9;" + Texts.persons(5)
                + Texts.joins(5, "a") + "pass 4;claim a;claim b;claim c;claim d;witness b a;pass 16;");
        reason(bureau, 4, 0, 1);
        reason(bureau, 0, 1, 0);
        bureau.witness(1, 0);
        reason(bureau, 4, 0, 1);
        bureau.join(0, 0);
        bureau.join(1, 0);
        bureau.pass(2);
        reason(bureau, 1, 5, 1);
        bureau.claim(5);
        reason(bureau, 7, 5, 1);
        bureau.set(2, 3);
        reason(bureau, 5, 5, 1);
        bureau.set(2, 2);
        bureau.witness(2, 1);
        bureau.witness(3, 1);
        reason(bureau, 7, 5, 1);
    }

    /** Tickets with other numbers than those of their persons, at an office that is not the first one: e joins first. */
    private static void otherNumbers() {
        WaitingBureau bureau = Check.loaded("bureau 0 1 2 20 1 0;office a 1 1 1;office b 4 6 9;" + Texts.persons(6)
                + "join e b;pass 1;join d b;pass 1;join c b;pass 1;join b b;pass 1;join a b;pass 8;");
        int[] waited = {6, 5, 4, 3, 8};
        for (int ticket = 0; ticket < 5; ticket++) {
            Check.promise(13);
            Check.same("hours lost by ticket " + ticket, waited[ticket], bureau.ticket(ticket, 8));
            Check.promise(20);
            Check.same("worth(" + ticket + ")", waited[ticket], bureau.worth(ticket));
            Check.promise(17);
            for (int person = 0; person < 6; person++) {
                int from = Math.max(ticket, 4 - person);
                int due = person == 4 - ticket || person == 5 ? 0 : 6 - from;
                Check.same("common(" + ticket + ", " + person + ")", due, bureau.common(ticket, person));
            }
        }
        bureau.claim(0);
        bureau.claim(1);
        reason(bureau, 3, 0, 4);
        reason(bureau, 3, 1, 3);
        reason(bureau, 0, 0, 0);
        Check.promise(38);
        Check.same("witness(0, 1)", 6, bureau.witness(0, 1));
        reason(bureau, 2, 0, 0);
        reason(bureau, 2, 0, 4);
        reason(bureau, 1, 4, 1);
        Check.promise(20);
        int[] due = {0, 5, 4, 3, 8};
        for (int ticket = 0; ticket < 5; ticket++) {
            Check.same("worth(" + ticket + ") when ticket 0 has its tokens", due[ticket], bureau.worth(ticket));
        }
        bureau.claim(4);
        bureau.claim(3);
        reason(bureau, 0, 4, 1);
        reason(bureau, 0, 4, 2);
        reason(bureau, 3, 4, 0);
        reason(bureau, 5, 4, 5);
        reason(bureau, 7, 3, 4);
        reason(bureau, 0, 3, 3);
        bureau.set(2, 3);
        reason(bureau, 5, 4, 1);
        Check.promise(38);
        Check.same("witness(3, 2)", 3, bureau.witness(3, 2));
        Check.promise(12);
        int[] made = {0, 3, 0, 0, 6, 0};
        int[] times = {0, 1, 1, 0, 0, 0};
        for (int person = 0; person < 6; person++) {
            Check.same("tokens that person " + person + " got made", made[person], bureau.person(person, 7));
            Check.same("how often person " + person + " was a witness", times[person], bureau.person(person, 8));
            Check.same("hours of person " + person + " without a token",
                    person == 5 ? 0 : waited[4 - person] - made[person], bureau.person(person, 9));
        }
    }

    // ---- OVERLAP

    /** x waits from 0 to 12, z from 0 to 6, and y joins them. */
    private static WaitingBureau joined(int overlap, int time) {
        return Check.loaded("bureau 0 1 " + overlap + " 9 1 0;office a 1 6 9;person x;person y;person z;join z a;join x a;"
                + Texts.pass(time) + "join y a;" + Texts.pass(12 - time) + "claim x;");
    }

    private static void overlap() {
        for (int overlap = 1; overlap <= 9; overlap++) {
            reason(joined(overlap, 12 - overlap), 0, 1, 1);
            reason(joined(overlap, 13 - overlap), 5, 1, 1);
            reason(joined(overlap, 0), 0, 1, 1);
            reason(joined(overlap, 1), 0, 1, 1);
        }
    }

    private static void overlapInAnyState() {
        for (int overlap = 1; overlap <= 9; overlap++) {
            WaitingBureau waiting = joined(overlap, 5);
            reason(waiting, overlap <= 7 ? 0 : 5, 1, 1);
            waiting.pass(5);
            reason(waiting, overlap <= 7 ? 0 : 5, 1, 1);
            reason(waiting, overlap <= 6 ? 0 : 5, 1, 2);
            waiting.pass(1);
            Check.same("state of the ticket of y", WaitingBureau.SERVED, waiting.ticket(2, 4));
            reason(waiting, overlap <= 7 ? 0 : 5, 1, 1);
            WaitingBureau left = Check.loaded("bureau 0 1 " + overlap + " 9 1 0;office a 1 6 9;person x;person y;person z;"
                    + "join z a;join x a;pass 2;join y a;pass 4;");
            left.leave(2);
            left.pass(6);
            left.claim(1);
            reason(left, overlap <= 4 ? 0 : 5, 1, 1);
        }
    }

    /** Two tickets of y have two and three hours in common with that of x; they do not count together. */
    private static void overlapOfOneTicket() {
        WaitingBureau bureau = Check.loaded("bureau 0 1 3 9 1 0;office a 1 6 9;person x;person y;person z;"
                + "join z a;join x a;pass 2;join y a;pass 2;");
        bureau.leave(2);
        bureau.pass(5);
        bureau.join(1, 0);
        bureau.pass(3);
        bureau.claim(1);
        reason(bureau, 0, 1, 1);
        bureau.set(2, 4);
        reason(bureau, 5, 1, 1);
        bureau.leave(3);
        reason(bureau, 5, 1, 1);
        bureau.set(2, 3);
        reason(bureau, 0, 1, 1);
    }

    private static void overlapOfMergedOffices() {
        WaitingBureau bureau = Check.loaded("bureau 0 1 3 9 1 0;office a 1 3 9;office b 1 6 9;person x;person y;"
                + "join x a;join y b;pass 3;claim x;");
        reason(bureau, 5, 0, 1);
        bureau.merge(1, 0);
        reason(bureau, 0, 0, 1);
        bureau.set(2, 4);
        reason(bureau, 5, 0, 1);
        bureau.set(2, 3);
        bureau.reopen(1);
        bureau.merge(0, 1);
        reason(bureau, 5, 0, 1);
    }

    // ---- the week

    private static void thirdAndFourthTime() {
        WaitingBureau bureau = Check.loaded("bureau 0 2 1 9 1 0;office a 4 2 9;" + Texts.persons(6)
                + Texts.joins(6, "a") + "pass 4;" + Texts.claims(6));
        for (int times = 0; times < 3; times++) {
            Check.promise(12);
            Check.same("times as a witness in this week", times, bureau.person(5, 8));
            reason(bureau, 0, times, 5);
            reason(bureau, 0, 4, 5);
            bureau.witness(times, 5);
        }
        Check.same("times as a witness in this week", 3, bureau.person(5, 8));
        reason(bureau, 6, 3, 5);
        reason(bureau, 6, 4, 5);
        bureau.pass(15);
        reason(bureau, 6, 3, 5);
        bureau.pass(1);
        reason(bureau, 0, 3, 5);
        reason(bureau, 4, 2, 5);
        bureau.witness(3, 5);
        bureau.witness(4, 5);
        Check.promise(12);
        Check.same("times as a witness in the new week", 2, bureau.person(5, 8));
    }

    private static void helpedInThisWeek() {
        WaitingBureau bureau = Check.loaded("bureau 0 2 1 9 1 0;office a 4 2 9;" + Texts.persons(3)
                + Texts.joins(3, "a") + "pass 2;" + Texts.claims(3) + Texts.pass(17));
        bureau.witness(0, 1);
        reason(bureau, 7, 1, 0);
        reason(bureau, 0, 2, 0);
        reason(bureau, 0, 1, 2);
        reason(bureau, 0, 2, 1);
        bureau.pass(1);
        reason(bureau, 0, 1, 0);
        bureau.witness(1, 0);
        Check.promise(16);
        Check.same("whyNot(0, 1) of one who is a witness of it", 4, bureau.whyNot(0, 1));
        reason(bureau, 0, 0, 2);
        bureau.undo();
        bureau.undo();
        reason(bureau, 7, 1, 0);
    }

    // ---- common, witnessFor, isWitness

    private static void common() {
        Check.promise(17);
        for (int time = 0; time <= 7; time++) {
            WaitingBureau bureau = Check.loaded("bureau 0 1 1 9 1 0;office a 2 6 9;office b 1 6 9;person x;person y;"
                    + "person z;join x a;join z b;" + Texts.pass(time) + "join y a;" + Texts.pass(12 - time));
            Check.same("common(0, 1) when y joins at " + time, Math.max(0, 6 - time), bureau.common(0, 1));
            Check.same("common(2, 0) when y joins at " + time, Math.max(0, 6 - time), bureau.common(2, 0));
            Check.same("common(0, 2) of another office", 0, bureau.common(0, 2));
            Check.same("common(1, 0) of another office", 0, bureau.common(1, 0));
            Check.same("common(0, 0) of no other ticket", 0, bureau.common(0, 0));
        }
        WaitingBureau nobody = Check.loaded("bureau 0 1 1 9 1 0;office a 2 6 9;person x;person y;join x a;pass 3;");
        Check.same("common(0, 1) of a person without tickets", 0, nobody.common(0, 1));
    }

    /** The greatest of several, also of those that wait or left. */
    private static void commonToThePresentTime() {
        Check.promise(17);
        WaitingBureau bureau = Check.loaded("bureau 0 1 1 9 1 0;office a 1 6 9;person x;person y;person z;"
                + "join z a;join x a;pass 1;join y a;");
        int[] due = {0, 1, 2, 3};
        for (int hours = 0; hours < 4; hours++) {
            Check.same("common(1, 1) after " + hours + " hours", due[hours], bureau.common(1, 1));
            Check.same("common(2, 0) after " + hours + " hours", due[hours], bureau.common(2, 0));
            bureau.pass(1);
        }
        bureau.leave(2);
        bureau.pass(2);
        bureau.join(1, 0);
        Check.same("common(1, 1) of one that left with 4", 4, bureau.common(1, 1));
        bureau.pass(4);
        Check.same("common(1, 1) of one with 4 and one with 4", 4, bureau.common(1, 1));
        bureau.pass(1);
        Check.same("common(1, 1) of one with 4 and one with 5", 5, bureau.common(1, 1));
        bureau.pass(3);
        Check.same("common(1, 1) when x was served at 12", 5, bureau.common(1, 1));
    }

    private static void commonOfTwoOwnTickets() {
        Check.promise(17);
        WaitingBureau bureau = Check.loaded("bureau 0 1 1 9 1 0;office a 1 6 9;office b 1 6 9;person x;"
                + "join x a;pass 2;join x b;pass 2;");
        Check.same("common(0, 0) of two offices", 0, bureau.common(0, 0));
        bureau.merge(1, 0);
        Check.same("state of the ticket that was behind", WaitingBureau.LEFT, bureau.ticket(1, 4));
        Check.same("common(0, 0) of the other one there", 2, bureau.common(0, 0));
        Check.same("common(1, 0) of the other one there", 2, bureau.common(1, 0));
        bureau.pass(1);
        Check.same("common(0, 0) an hour later", 2, bureau.common(0, 0));
    }

    private static void witnessFor() {
        Check.promise(18);
        WaitingBureau bureau = Check.loaded("bureau 0 3 1 9 1 0;office a 4 6 16;" + Texts.persons(16)
                + Texts.joins(16, "a") + Texts.pass(6) + "claim a;claim d;");
        for (int place = 0; place < 15; place++) {
            Check.same("witnessFor(0, " + place + ")", place + 1, bureau.witnessFor(0, place));
            Check.same("witnessFor(3, " + place + ")", place < 3 ? place : place + 1, bureau.witnessFor(3, place));
        }
        for (int place : new int[] {15, 16, -1, Integer.MIN_VALUE, Integer.MAX_VALUE}) {
            Check.noElement("witnessFor(0, " + place + ")", () -> bureau.witnessFor(0, place));
        }
        bureau.witness(0, 1);
        Check.same("witnessFor(0, 0) when b is one", 2, bureau.witnessFor(0, 0));
        Check.same("witnessFor(0, 13) when b is one", 15, bureau.witnessFor(0, 13));
        Check.noElement("witnessFor(0, 14) when b is one", () -> bureau.witnessFor(0, 14));
        bureau.witness(0, 15);
        Check.same("witnessFor(0, 12) when p is one, too", 14, bureau.witnessFor(0, 12));
        Check.noElement("witnessFor(0, 13) when p is one, too", () -> bureau.witnessFor(0, 13));
        bureau.witness(0, 2);
        Check.noElement("witnessFor(0, 0) of what is proven", () -> bureau.witnessFor(0, 0));
        Check.noElement("witnessFor(1, 0) of what is not claimed", () -> bureau.witnessFor(1, 0));
    }

    private static void isWitness() {
        Check.promise(19);
        WaitingBureau bureau = Check.loaded("bureau 0 2 1 9 1 0;office a 4 6 16;" + Texts.persons(16)
                + Texts.joins(16, "a") + Texts.pass(6) + "claim b;");
        bureau.witness(1, 0);
        bureau.witness(1, 15);
        for (int person = 0; person < 16; person++) {
            boolean isOne = person == 0 || person == 15;
            Check.same("isWitness(1, " + person + ")", isOne, bureau.isWitness(1, person));
            Check.same("isWitness(0, " + person + ")", false, bureau.isWitness(0, person));
        }
        bureau.pass(20);
        Check.same("isWitness(1, 15) in the new week", true, bureau.isWitness(1, 15));
    }

    // ---- worth

    private static void worth() {
        Check.promise(20);
        for (int grace = 0; grace <= 9; grace++) {
            WaitingBureau bureau = Check.loaded("bureau " + grace + " 0 1 20 1 0;office a 1 6 9;person x;person y;person z;"
                    + "join x a;join y a;join z a;pass 5;");
            Check.same("worth(0) of what waits", 0, bureau.worth(0));
            bureau.leave(2);
            bureau.pass(1);
            Check.same("worth(0) of 6 hours with GRACE " + grace, Math.max(0, 6 - grace), bureau.worth(0));
            Check.same("worth(2) of what left", 0, bureau.worth(2));
            bureau.pass(6);
            Check.same("worth(1) of 12 hours with GRACE " + grace, 12 - grace, bureau.worth(1));
            Check.same("claim(1) of 12 hours with GRACE " + grace, 12 - grace, bureau.claim(1));
            Check.same("worth(1) of what is proven", 0, bureau.worth(1));
        }
    }

    private static void worthAndTheCap() {
        Check.promise(20);
        WaitingBureau bureau = Check.loaded("bureau 0 1 1 5 1 0;office a 2 6 9;person x;person y;join x a;join y a;pass 6;");
        for (int cap = 1; cap <= 20; cap++) {
            bureau.set(3, cap);
            Check.same("worth(0) of 6 hours with CAP " + cap, Math.min(6, cap), bureau.worth(0));
        }
        bureau.set(3, 5);
        bureau.claim(0);
        Check.same("worth(0) of what is claimed", 5, bureau.worth(0));
        bureau.witness(0, 1);
        Check.same("worth(0) at CAP", 0, bureau.worth(0));
        bureau.set(3, 4);
        Check.same("worth(0) above CAP", 0, bureau.worth(0));
        bureau.set(3, 6);
        Check.same("worth(0) with one hour left", 1, bureau.worth(0));
        bureau.set(3, 5);
        bureau.pass(13);
        Check.same("worth(0) at 19", 0, bureau.worth(0));
        bureau.pass(1);
        Check.same("worth(0) at 20, when all are made", 0, bureau.worth(0));
        bureau.set(3, 1);
        Check.same("worth(1) of another person", 1, bureau.worth(1));
    }

    // ---- claim and witness

    private static void claim() {
        Check.promise(37);
        WaitingBureau bureau = Check.loaded("bureau 0 0 1 20 1 0;office a 1 3 9;person x;person y;person z;"
                + "join x a;join y a;join z a;pass 2;");
        Check.badState("claim(0) an hour ahead of being served", () -> bureau.claim(0));
        bureau.pass(1);
        Check.same("claim(0) at once when it is served", 3, bureau.claim(0));
        Check.badState("claim(0) again", () -> bureau.claim(0));
        Check.badState("claim(1) of what waits", () -> bureau.claim(1));
        bureau.leave(2);
        Check.badState("claim(2) of what left", () -> bureau.claim(2));
        bureau.set(1, 1);
        bureau.pass(3);
        Check.same("claim(1) that needs a witness", 0, bureau.claim(1));
        Check.badState("claim(1) again", () -> bureau.claim(1));
        bureau.set(1, 0);
        Check.badState("claim(1) again with NEED 0", () -> bureau.claim(1));
    }

    /** Witnesses at a are b, c and d, each of whom waited with a. */
    private static void neededWitnesses() {
        for (int need = 0; need <= 3; need++) {
            WaitingBureau bureau = Check.loaded("bureau 0 " + need + " 1 20 1 0;office a 4 6 9;" + Texts.persons(4)
                    + Texts.joins(4, "a") + "pass 6;");
            Check.promise(37);
            Check.same("claim(0) with NEED " + need, need == 0 ? 6 : 0, bureau.claim(0));
            for (int person = 1; person <= need; person++) {
                Check.promise(13);
                Check.same("whether it is proven with " + (person - 1) + " of " + need, 0, bureau.ticket(0, 6));
                Check.same("its witnesses", person - 1, bureau.ticket(0, 7));
                Check.promise(8);
                Check.same("claimed tickets that are not proven", 1, bureau.count(6));
                Check.promise(38);
                Check.same("witness " + person + " of " + need, person == need ? 6 : 0, bureau.witness(0, person));
            }
            Check.promise(13);
            Check.same("whether it is proven with NEED " + need, 1, bureau.ticket(0, 6));
            Check.same("its witnesses", need, bureau.ticket(0, 7));
            Check.promise(8);
            Check.same("claimed tickets that are not proven", 0, bureau.count(6));
            Check.promise(38);
            Check.badState("one more witness than " + need, () -> bureau.witness(0, 3));
        }
    }

    /** Two of three witnesses are there when NEED is changed. */
    private static void changedNeed() {
        for (int need = 0; need <= 3; need++) {
            WaitingBureau bureau = Check.loaded("bureau 0 3 1 20 1 0;office a 4 6 9;" + Texts.persons(5)
                    + Texts.joins(5, "a") + "pass 6;claim a;witness b a;witness c a;");
            Check.promise(45);
            Check.same("set(1, " + need + ")", 3, bureau.set(1, need));
            Check.same("whether it is proven by NEED " + need, 0, bureau.ticket(0, 6));
            Check.same("tokens by NEED " + need, 0, bureau.count(8));
            bureau.pass(14);
            Check.same("tokens of the new week by NEED " + need, 0, bureau.count(8));
            Check.same("the next witness by NEED " + need, 6, bureau.witness(0, 3));
            Check.same("whether it is proven then", 1, bureau.ticket(0, 6));
            bureau.set(1, 3);
            Check.same("whether it stays proven", 1, bureau.ticket(0, 6));
        }
        WaitingBureau more = Check.loaded("bureau 0 1 1 20 1 0;office a 4 6 9;" + Texts.persons(4)
                + Texts.joins(4, "a") + "pass 6;claim a;");
        more.set(1, 2);
        Check.same("the first witness by a greater NEED", 0, more.witness(0, 1));
        Check.same("the second witness by a greater NEED", 6, more.witness(0, 2));
        WaitingBureau none = Check.loaded("bureau 0 1 1 20 1 0;office a 4 6 9;" + Texts.persons(4)
                + Texts.joins(4, "a") + "pass 6;claim a;");
        none.set(1, 0);
        Check.same("whether NEED 0 proves it", 0, none.ticket(0, 6));
        Check.same("the next witness by NEED 0", 6, none.witness(0, 1));
    }

    // ---- tokens

    private static void cap() {
        Check.terms("tokens");
        for (int cap = 1; cap <= 20; cap++) {
            WaitingBureau bureau = Check.loaded("bureau 0 0 1 " + cap + " 1 0;office a 1 6 9;" + Texts.persons(4)
                    + Texts.joins(4, "a") + "pass 24;");
            for (int ticket = 0; ticket < 4; ticket++) {
                Check.same("tokens with CAP " + cap, Math.min(6 * ticket + 6, cap), bureau.claim(ticket));
                Check.same("tokens of this week", Math.min(6 * ticket + 6, cap), bureau.person(ticket, 7));
            }
            bureau.pass(15);
            Check.same("tokens of this week at 39", cap, bureau.person(3, 7));
            bureau.pass(1);
            Check.same("tokens of the new week", Math.min(24 - cap, cap), bureau.person(3, 7));
            Check.same("tokens in all", Math.min(24, 2 * cap), bureau.person(3, 6));
        }
    }

    /** Three tickets of three hours each; CAP is that of the person. */
    private static void capOfSeveralTickets() {
        WaitingBureau bureau = Check.loaded("bureau 0 0 1 5 1 0;office a 1 3 9;person x;"
                + "join x a;pass 3;join x a;pass 3;join x a;pass 3;");
        int[] due = {3, 2, 0};
        int sum = 0;
        for (int ticket = 0; ticket < 3; ticket++) {
            Check.promise(20);
            Check.same("worth(" + ticket + ") with " + sum + " tokens of CAP 5", due[ticket], bureau.worth(ticket));
            Check.promise(37);
            Check.same("claim(" + ticket + ") with " + sum + " tokens of CAP 5", due[ticket], bureau.claim(ticket));
            sum += due[ticket];
            Check.promise(12);
            Check.same("tokens of this week", sum, bureau.person(0, 7));
        }
        bureau.pass(11);
        Check.same("tokens of the new week, of two tickets", 4, bureau.person(0, 7));
        Check.promise(13);
        Check.same("tokens of ticket 0", 3, bureau.ticket(0, 9));
        Check.same("tokens of ticket 1", 3, bureau.ticket(1, 9));
        Check.same("tokens of ticket 2", 3, bureau.ticket(2, 9));
    }

    /** What is given away counts for the person of the ticket; other persons have a CAP of their own. */
    private static void capInTheNewWeek() {
        Check.terms("tokens");
        WaitingBureau bureau = Check.loaded("bureau 0 0 1 3 1 0;office a 2 6 9;office b 1 4 9;person x;person y;"
                + "join x a;join y a;pass 7;join x b;pass 1;pass 11;");
        Check.same("claim(0) at 19", 3, bureau.claim(0));
        bureau.give(0, 1, 3);
        Check.same("claim(2) at 19 and at CAP", 0, bureau.claim(2));
        Check.same("claim(1) of another person, who owns three", 3, bureau.claim(1));
        bureau.pass(1);
        Check.same("tokens at 20", 12, bureau.count(8));
        Check.same("tokens of ticket 0 at 20", 6, bureau.ticket(0, 9));
        Check.same("tokens of ticket 2 at 20", 0, bureau.ticket(2, 9));
        bureau.pass(19);
        Check.same("tokens at 39", 12, bureau.count(8));
        bureau.pass(1);
        Check.same("tokens of ticket 2 at 40", 1, bureau.ticket(2, 9));
        Check.same("tokens at 40", 13, bureau.count(8));
        WaitingBureau fresh = Check.loaded("bureau 0 0 1 3 1 0;office a 2 6 9;person x;join x a;pass 20;");
        Check.same("claim(0) at 20", 3, fresh.claim(0));
        fresh.pass(19);
        Check.same("tokens at 39 of what was claimed at 20", 3, fresh.count(8));
        fresh.pass(1);
        Check.same("tokens at 40 of what was claimed at 20", 6, fresh.count(8));
    }

    private static void noHourTwice() {
        Check.terms("tokens");
        WaitingBureau bureau = Check.loaded("bureau 0 0 1 20 1 0;office a 1 3 9;office b 1 3 9;office c 1 4 9;person x;"
                + "person y;join x a;join x b;join x c;join y a;pass 6;");
        Check.same("tokens of hours 0 to 2", 3, bureau.claim(0));
        Check.same("tokens of the same hours", 0, bureau.claim(1));
        Check.same("tokens of hours 0 to 3", 1, bureau.claim(2));
        Check.same("its hour", 3, bureau.token(3, 2));
        Check.same("its ticket", 2, bureau.token(3, 1));
        Check.same("tokens of the same hours of another person", 6, bureau.claim(3));
        Check.promise(25);
        Check.same("gap()", 0, bureau.gap());
        Check.promise(20);
        bureau.set(0, 9);
        bureau.set(0, 0);
        Check.same("worth(1)", 0, bureau.worth(1));
    }

    /** Hours are in ascending order; in a new week the tickets are, too, however they were proven. */
    private static void order() {
        Check.terms("tokens");
        WaitingBureau bureau = Check.loaded("bureau 1 0 1 20 1 0;office a 1 4 9;office b 1 6 9;person x;person y;"
                + "join y b;join x a;join x b;pass 12;");
        bureau.set(3, 2);
        bureau.claim(2);
        bureau.claim(1);
        bureau.claim(0);
        int[][] due = {{2, 1}, {2, 2}, {0, 1}, {0, 2}, {0, 3}, {0, 4}, {1, 3}, {2, 4}, {0, 5}, {2, 5}, {2, 6}};
        bureau.pass(8);
        bureau.pass(20);
        for (int token = 0; token < due.length; token++) {
            Check.same("ticket of token " + token, due[token][0], bureau.token(token, 1));
            Check.same("hour of token " + token, due[token][1], bureau.token(token, 2));
        }
        Check.same("tokens", due.length, bureau.count(8));
    }

    private static void twoHundredTokens() {
        Check.terms("tokens");
        WaitingBureau bureau = Check.loaded(Texts.twoHundredTokens().replace("claim o;claim p;", ""));
        Check.same("tokens of 14 tickets", 184, bureau.count(8));
        bureau.set(3, 15);
        Check.same("claim(14) of 15 hours", 15, bureau.claim(14));
        Check.promise(20);
        Check.same("worth(15) at 199 tokens", 1, bureau.worth(15));
        Check.terms("tokens");
        Check.same("claim(15) at 199 tokens", 1, bureau.claim(15));
        Check.same("tokens", 200, bureau.count(8));
        Check.same("person of the last one", 15, bureau.token(199, 0));
        Check.promise(20);
        Check.same("worth(15) at 200 tokens", 0, bureau.worth(15));
        Check.same("worth(14) at 200 tokens", 0, bureau.worth(14));
        Check.terms("tokens");
        bureau.pass(16);
        Check.same("tokens of the new week", 200, bureau.count(8));
        Check.same("tokens made in the new week", 0, bureau.person(15, 7));
        bureau.undo();
        bureau.undo();
        bureau.set(3, 1);
        bureau.pass(16);
        Check.same("tokens of the new week for the tickets ahead of 15", 200, bureau.count(8));
        Check.same("ticket of the last one", 12, bureau.token(199, 1));
    }
}
