/** The boundaries that promises 46 to 48 and the changes of the "Terms" name. */
public final class UndoEdgesTest {
    private static final Class<?> BOUNDS = IndexOutOfBoundsException.class;
    private static final int KINDS = 12;

    private UndoEdgesTest() {
    }

    public static void main(String[] args) {
        eightAndNine();
        undoAgainAndAgain();
        everyChangeIsKept();
        changesThatChangeNothing();
        whatIsNoChange();
        whatUndoLeaves();
        undoOfWeeks();
        lastPerson();
        usedRows();
        usedRowsOfRestored();
        slots();
        twoSlots();
        savedAgain();
        restoreForgetsChanges();
        everyStateIsSaved();
        whatRestoreLeaves();
        slotsAfterLoad();
        Check.end("UndoEdgesTest");
    }

    // ---- undo

    private static void eightAndNine() {
        for (int changes = 0; changes <= 20; changes++) {
            WaitingBureau bureau = new WaitingBureau();
            for (int i = 0; i < changes; i++) {
                bureau.deposit(1);
            }
            int kept = Math.min(8, changes);
            Check.promise(8);
            Check.same("changes kept of " + changes, kept, bureau.count(12));
            Check.promise(46);
            for (int left = kept - 1; left >= 0; left--) {
                Check.same("undo() after " + changes, left, bureau.undo());
                Check.same("changes left", left, bureau.count(12));
                Check.same("FUND", 20 + changes - kept + left, bureau.count(11));
            }
            Check.badState("undo() of one more after " + changes, bureau::undo);
            Check.same("FUND after all", 20 + changes - kept, bureau.count(11));
        }
    }

    private static void undoAgainAndAgain() {
        Check.promise(46);
        WaitingBureau bureau = new WaitingBureau();
        for (int round = 0; round < 10; round++) {
            bureau.deposit(10);
            bureau.deposit(1);
            Check.same("undo() in round " + round, Math.min(7, round + 1), bureau.undo());
            Check.same("FUND in round " + round, 30 + 10 * round, bureau.count(11));
        }
        Check.same("deposit(1)", 121, bureau.deposit(1));
        Check.same("changes", 8, bureau.count(12));
        for (int left = 7; left >= 0; left--) {
            Check.same("undo()", left, bureau.undo());
        }
        Check.badState("undo() of one more", bureau::undo);
        Check.same("FUND", 50, bureau.count(11));
    }

    /** A change of every kind can be done: y's ticket is proven, x's is claimed, u's is not, and c is closed. */
    private static WaitingBureau manifold() {
        WaitingBureau bureau = Check.loaded("bureau 0 1 1 4 3 4;office a 1 2 6;office b 1 6 6;office c 1 1 6;"
                + "person x;person y;person z;person u;join x a;join y a;join z a;join z b;join u c;pass 5;"
                + "claim x;claim y;witness x y;");
        bureau.merge(2, 1);
        bureau.save(0);
        bureau.restore(0);
        return bureau;
    }

    private static void change(WaitingBureau bureau, int kind) {
        switch (kind) {
            case 0: bureau.join(1, 1); break;
            case 1: bureau.leave(2); break;
            case 2: bureau.pass(17); break;
            case 3: bureau.claim(4); break;
            case 4: bureau.witness(0, 2); break;
            case 5: bureau.give(1, 2, 2); break;
            case 6: bureau.offer(1, 3); break;
            case 7: bureau.deposit(9); break;
            case 8: bureau.merge(0, 1); break;
            case 9: bureau.reopen(2); break;
            case 10: Check.put(bureau, "new"); bureau.addPerson(); break;
            default: bureau.set(0, 3); break;
        }
    }

    private static WaitingBureau changed(int kind) {
        WaitingBureau bureau = manifold();
        change(bureau, kind);
        return bureau;
    }

    private static void everyChangeIsKept() {
        Check.promise(46);
        String before = Snapshot.of(UndoEdgesTest::manifold);
        for (int i = 0; i < KINDS; i++) {
            int kind = i;
            String after = Snapshot.state(() -> changed(kind));
            Check.same("whether change " + kind + " changes anything", false, before.contains(after));
            Check.same("changes after change " + kind, 1, changed(kind).count(12));
            Check.same("undo() of change " + kind, 0, changed(kind).undo());
            Check.same("everything after undo() of change " + kind, before, Snapshot.of(() -> {
                WaitingBureau bureau = changed(kind);
                bureau.undo();
                return bureau;
            }));
            Check.same("state after undo() and change " + kind + " again", after, Snapshot.state(() -> {
                WaitingBureau bureau = changed(kind);
                bureau.undo();
                change(bureau, kind);
                return bureau;
            }));
        }
    }

    private static void changesThatChangeNothing() {
        Check.terms("changes");
        WaitingBureau bureau = new WaitingBureau();
        Check.same("set() to the present value", 1, bureau.set(0, 1));
        Check.same("changes after that", 1, bureau.count(12));
        Check.same("set() to the present value again", 1, bureau.set(0, 1));
        Check.same("changes after that", 2, bureau.count(12));
        Check.same("undo()", 1, bureau.undo());
        Check.same("undo()", 0, bureau.undo());
    }

    /** Only changes can be undone. */
    private static void whatIsNoChange() {
        Check.terms("changes");
        WaitingBureau bureau = new WaitingBureau();
        bureau.deposit(1);
        Check.put(bureau, "x");
        bureau.find(false);
        bureau.append(0, 0, 0, 0, 0);
        bureau.truncate(3);
        bureau.save(0);
        bureau.write(0);
        bureau.tokensIn(9);
        bureau.longestIfMerged(0, 1);
        Check.badArgument("load()", bureau::load);
        Check.badState("reopen(0)", () -> bureau.reopen(0));
        Check.badArgument("addPerson()", bureau::addPerson);
        Check.same("changes after all that", 1, bureau.count(12));
        Check.same("undo()", 0, bureau.undo());
        Check.same("FUND", 20, bureau.count(11));
    }

    private static void whatUndoLeaves() {
        Check.terms("changes");
        WaitingBureau bureau = new WaitingBureau();
        bureau.save(0);
        bureau.deposit(1);
        bureau.save(1);
        bureau.join(0, 0);
        bureau.write(0);
        Check.put(bureau, " !");
        Check.badArgument("load()", bureau::load);
        Check.put(bureau, "x");
        bureau.undo();
        bureau.undo();
        Check.same("output", "x@0", Check.output(bureau, 3));
        Check.same("errorCode()", 1, bureau.errorCode());
        Check.same("errorPosition()", 1, bureau.errorPosition());
        Check.same("truncate(1) of the buffer", 1, bureau.truncate(1));
        Check.same("find() of the buffer", 0, bureau.find(false));
        bureau.restore(1);
        Check.same("FUND of slot 1", 21, bureau.count(11));
        bureau.restore(0);
        Check.same("FUND of slot 0", 20, bureau.count(11));
    }

    /** What was counted in a week comes back with it. */
    private static void undoOfWeeks() {
        Check.promise(46);
        Snapshot.Maker atNineteen = () -> Check.loaded("bureau 0 1 1 2 1 9;office a 4 3 9;" + Texts.persons(4)
                + Texts.joins(4, "a") + "pass 3;claim a;claim b;claim c;witness d a;witness d b;witness d c;pass 16;");
        String due = Snapshot.state(atNineteen);
        Check.same("state after undo() of an hour", due, Snapshot.state(() -> {
            WaitingBureau bureau = atNineteen.make();
            bureau.pass(1);
            bureau.claim(3);
            bureau.witness(3, 2);
            bureau.offer(0, 3);
            bureau.undo();
            bureau.undo();
            bureau.undo();
            bureau.undo();
            return bureau;
        }));
        WaitingBureau bureau = atNineteen.make();
        bureau.claim(3);
        Check.same("whyNot(3, 0)", 7, bureau.whyNot(3, 0));
        bureau.pass(1);
        Check.same("whyNot(3, 0) in the new week", 0, bureau.whyNot(3, 0));
        bureau.undo();
        Check.same("whyNot(3, 0) when the week is undone", 7, bureau.whyNot(3, 0));
    }

    /** The last of the persons, tickets and offices come back like the others. */
    private static void lastPerson() {
        Check.promise(46);
        String text = "bureau 0 1 1 20 1 9;" + Texts.offices(6, "4 3 16") + Texts.persons(16) + "join o f;join p f;pass 3;"
                + "claim o;claim p;";
        String due = Snapshot.state(() -> Check.loaded(text));
        Check.same("state after undo() of witnesses", due, Snapshot.state(() -> {
            WaitingBureau bureau = Check.loaded(text);
            bureau.witness(1, 14);
            bureau.offer(15, 3);
            bureau.merge(5, 4);
            bureau.undo();
            bureau.undo();
            bureau.undo();
            return bureau;
        }));
        WaitingBureau bureau = Check.loaded(text);
        bureau.witness(0, 15);
        Check.same("times that the last person was a witness", 1, bureau.person(15, 8));
        Check.same("whyNot(1, 14)", 7, bureau.whyNot(1, 14));
        bureau.undo();
        Check.same("times that it was one after undo()", 0, bureau.person(15, 8));
        Check.same("whyNot(1, 14) after undo()", 0, bureau.whyNot(1, 14));
        bureau.witness(1, 14);
        Check.same("tokens that the last person got made", 3, bureau.person(15, 7));
        bureau.save(0);
        bureau.undo();
        Check.same("tokens that it got made after undo()", 0, bureau.person(15, 7));
        Check.promise(48);
        bureau.restore(0);
        Check.same("tokens that it got made after restore()", 3, bureau.person(15, 7));
    }

    /** A ticket, a token or a person that comes in place of one that was undone has nothing of it. */
    private static void usedRows() {
        Check.promise(46);
        String text = "bureau 0 1 1 20 1 9;office a 4 3 16;" + Texts.persons(3) + "join a a;";
        Snapshot.Maker plain = () -> {
            WaitingBureau bureau = Check.loaded(text);
            bureau.join(1, 0);
            bureau.pass(3);
            bureau.claim(1);
            Check.put(bureau, "new");
            bureau.addPerson();
            return bureau;
        };
        Check.same("everything after other changes that were undone", Snapshot.state(plain), Snapshot.state(() -> {
            WaitingBureau bureau = Check.loaded(text);
            bureau.join(2, 0);
            bureau.pass(3);
            bureau.claim(1);
            bureau.witness(1, 0);
            bureau.offer(2, 3);
            for (int i = 0; i < 5; i++) {
                bureau.undo();
            }
            Check.put(bureau, "old");
            bureau.addPerson();
            bureau.join(3, 0);
            bureau.pass(3);
            bureau.claim(1);
            bureau.claim(0);
            bureau.witness(1, 0);
            for (int i = 0; i < 6; i++) {
                bureau.undo();
            }
            bureau.join(1, 0);
            bureau.pass(3);
            bureau.claim(1);
            Check.put(bureau, "new");
            bureau.addPerson();
            return bureau;
        }));
        WaitingBureau bureau = Check.loaded(text);
        bureau.pass(3);
        bureau.claim(0);
        bureau.undo();
        bureau.undo();
        bureau.join(1, 0);
        bureau.pass(3);
        Check.same("claimed tickets", 0, bureau.count(6));
        Check.same("whyNot(1, 0)", 1, bureau.whyNot(1, 0));
    }

    /** So it is with what was there when an earlier state is restored. */
    private static void usedRowsOfRestored() {
        Check.promise(48);
        String text = "bureau 0 1 1 20 1 9;office a 4 3 16;" + Texts.persons(3);
        String due = Snapshot.state(() -> {
            WaitingBureau bureau = Check.loaded(text);
            joinedAndClaimed(bureau);
            return bureau;
        });
        Check.same("state after restore() of the state ahead of other changes", due, Snapshot.state(() -> {
            WaitingBureau bureau = Check.loaded(text);
            bureau.save(0);
            Check.put(bureau, "old");
            bureau.addPerson();
            for (int person = 3; person >= 0; person--) {
                bureau.join(person, 0);
            }
            bureau.pass(3);
            for (int ticket = 0; ticket < 4; ticket++) {
                bureau.claim(ticket);
            }
            bureau.witness(0, 1);
            bureau.witness(2, 0);
            bureau.give(1, 3, 1);
            bureau.offer(3, 4);
            bureau.restore(0);
            joinedAndClaimed(bureau);
            return bureau;
        }));
        WaitingBureau bureau = Check.loaded(text + "join a a;join b a;");
        bureau.save(1);
        bureau.join(2, 0);
        bureau.pass(3);
        bureau.claim(2);
        bureau.set(1, 2);
        bureau.witness(2, 0);
        bureau.restore(1);
        bureau.join(2, 0);
        Check.same("state of the ticket after restore()", WaitingBureau.WAITING, bureau.ticket(2, 4));
        Check.same("ENDED after restore()", WaitingBureau.NONE, bureau.ticket(2, 3));
        Check.same("whether it is claimed after restore()", 0, bureau.ticket(2, 5));
        Check.same("its witnesses after restore()", 0, bureau.ticket(2, 7));
        Check.same("isWitness(2, 0) after restore()", false, bureau.isWitness(2, 0));
        bureau.pass(3);
        bureau.claim(2);
        Check.same("witness(2, 0) after restore()", 3, bureau.witness(2, 0));
    }

    private static void joinedAndClaimed(WaitingBureau bureau) {
        Check.put(bureau, "new");
        bureau.addPerson();
        bureau.join(3, 0);
        bureau.join(1, 0);
        bureau.pass(3);
        bureau.join(2, 0);
        bureau.claim(1);
        bureau.witness(1, 3);
    }

    // ---- save and restore

    private static void slots() {
        for (int saved = 0; saved < 2; saved++) {
            int slot = saved;
            Check.promise(47);
            Check.beyond("save()", BOUNDS, 0, 1, odd -> savedIn(slot, odd));
            Check.promise(48);
            Check.beyond("restore()", BOUNDS, 0, 1, odd -> {
                WaitingBureau bureau = new WaitingBureau();
                bureau.save(slot);
                bureau.restore(odd);
                return odd;
            });
            WaitingBureau bureau = new WaitingBureau();
            Check.noElement("restore(0) of an empty slot", () -> bureau.restore(0));
            Check.noElement("restore(1) of an empty slot", () -> bureau.restore(1));
            bureau.save(slot);
            bureau.deposit(1);
            Check.noElement("restore() of the other slot", () -> bureau.restore(1 - slot));
            Check.same("FUND", 21, bureau.count(11));
            Check.same("changes", 1, bureau.count(12));
            bureau.restore(slot);
            Check.same("FUND of the slot", 20, bureau.count(11));
            Check.noElement("restore() of the other slot still", () -> bureau.restore(1 - slot));
        }
    }

    private static int savedIn(int slot, int other) {
        WaitingBureau bureau = new WaitingBureau();
        bureau.save(slot);
        bureau.save(other);
        return other;
    }

    private static void twoSlots() {
        Check.promise(47);
        WaitingBureau bureau = new WaitingBureau();
        bureau.save(0);
        bureau.deposit(1);
        bureau.save(1);
        bureau.deposit(1);
        Check.same("changes after save()", 2, bureau.count(12));
        Check.same("FUND after save()", 22, bureau.count(11));
        Check.promise(48);
        for (int round = 0; round < 2; round++) {
            bureau.restore(1);
            Check.same("FUND of slot 1", 21, bureau.count(11));
            bureau.restore(0);
            Check.same("FUND of slot 0", 20, bureau.count(11));
            bureau.deposit(100);
        }
    }

    private static void savedAgain() {
        Check.promise(47);
        WaitingBureau bureau = new WaitingBureau();
        for (int slot = 0; slot < 2; slot++) {
            bureau.save(slot);
            bureau.deposit(1);
            bureau.save(slot);
            bureau.deposit(1);
            bureau.restore(slot);
            Check.same("FUND of what was saved last", 21 + slot, bureau.count(11));
        }
        bureau.restore(0);
        Check.same("FUND of slot 0", 21, bureau.count(11));
    }

    private static void restoreForgetsChanges() {
        Check.promise(48);
        WaitingBureau bureau = new WaitingBureau();
        bureau.save(0);
        for (int i = 0; i < 9; i++) {
            bureau.deposit(1);
        }
        Check.outOfBounds("restore(2)", () -> bureau.restore(2));
        Check.noElement("restore(1)", () -> bureau.restore(1));
        Check.same("changes after a restore() that throws", 8, bureau.count(12));
        bureau.restore(0);
        Check.same("changes after restore(0)", 0, bureau.count(12));
        Check.badState("undo() after restore(0)", bureau::undo);
        bureau.deposit(1);
        Check.same("changes after another one", 1, bureau.count(12));
        Check.same("undo() of that", 0, bureau.undo());
        Check.badState("undo() of what was forgotten", bureau::undo);
        Check.same("FUND", 20, bureau.count(11));
    }

    private static void everyStateIsSaved() {
        Check.promise(48);
        String before = Snapshot.state(UndoEdgesTest::manifold);
        for (int i = 0; i < KINDS; i++) {
            int kind = i;
            Check.same("state of the slot after change " + kind, before, Snapshot.state(() -> {
                WaitingBureau bureau = manifold();
                bureau.save(1);
                change(bureau, kind);
                bureau.restore(1);
                return bureau;
            }));
            String after = Snapshot.state(() -> changed(kind));
            Check.same("state with change " + kind + " from a slot", after, Snapshot.state(() -> {
                WaitingBureau bureau = changed(kind);
                bureau.save(1);
                for (int other = 0; other < 10; other++) {
                    bureau.deposit(1);
                }
                bureau.restore(0);
                bureau.pass(20);
                bureau.restore(1);
                return bureau;
            }));
        }
    }

    private static void whatRestoreLeaves() {
        Check.terms("changes");
        WaitingBureau bureau = new WaitingBureau();
        bureau.save(0);
        bureau.set(4, 9);
        bureau.join(0, 0);
        bureau.write(0);
        Check.put(bureau, " !");
        Check.badArgument("load()", bureau::load);
        Check.put(bureau, "x");
        bureau.restore(0);
        Check.same("PRICE", 3, bureau.setting(4));
        Check.same("output", "x@0", Check.output(bureau, 3));
        Check.same("errorCode()", 1, bureau.errorCode());
        Check.same("errorPosition()", 1, bureau.errorPosition());
        Check.same("truncate(1) of the buffer", 1, bureau.truncate(1));
        Check.same("find() of the buffer", 0, bureau.find(false));
    }

    private static void slotsAfterLoad() {
        Check.terms("changes");
        WaitingBureau bureau = new WaitingBureau();
        bureau.save(0);
        bureau.save(1);
        bureau.deposit(1);
        Check.badArgument("load()", bureau::load);
        Check.same("changes after a load() that throws", 1, bureau.count(12));
        bureau.restore(0);
        bureau.restore(1);
        bureau.deposit(1);
        Check.put(bureau, "bureau 0 0 1 1 1 0;office a 1 1 1;");
        Check.same("load()", 0, bureau.load());
        Check.same("changes after a load() that does not", 0, bureau.count(12));
        Check.noElement("restore(0)", () -> bureau.restore(0));
        Check.noElement("restore(1)", () -> bureau.restore(1));
        bureau.save(1);
        Check.noElement("restore(0) when 1 is saved", () -> bureau.restore(0));
        bureau.restore(1);
        Check.same("persons", 0, bureau.count(1));
    }
}
