/**
 * All that an object tells, and what is hidden behind it: the buffer, the output, the slots, and what can be undone.
 * An object is used for 512 calls only, so it is made anew in the same way as often as needed.
 */
final class Snapshot {
    interface Maker {
        /** Makes an object with at most 200 calls. */
        WaitingBureau make();
    }

    private static final int CALLS = 280;
    private static final String[] NAMES = {"a", "b", "c", "d", "k", "p", "q", "x", "y", "z", "u", "new", "bcdefg"};

    private final Maker maker;
    private final StringBuilder all = new StringBuilder();
    private WaitingBureau bureau;
    private int left;

    private Snapshot(Maker maker) {
        this.maker = maker;
    }

    /** The state alone. */
    static String state(Maker maker) {
        Snapshot snapshot = new Snapshot(maker);
        snapshot.counts();
        snapshot.offices();
        snapshot.persons();
        snapshot.tickets();
        snapshot.tokens();
        snapshot.names();
        return snapshot.all.toString();
    }

    /** Everything. */
    static String of(Maker maker) {
        Snapshot snapshot = new Snapshot(maker);
        snapshot.textAndOutput();
        StringBuilder all = snapshot.all.append(state(maker));
        int changes = maker.make().count(12);
        all.append("\nchanges ").append(changes);
        for (int i = 1; i <= changes; i++) {
            int many = i;
            all.append("\nundone ").append(i).append(state(() -> undone(maker, many)));
        }
        for (int i = 0; i < 2; i++) {
            int slot = i;
            Object outcome = Check.outcome(() -> restored(maker, slot));
            boolean isEmpty = outcome instanceof String;
            all.append("\nslot ").append(isEmpty ? outcome : state(() -> restored(maker, slot)));
        }
        return all.toString();
    }

    private static WaitingBureau undone(Maker maker, int many) {
        WaitingBureau bureau = maker.make();
        for (int i = 0; i < many; i++) {
            bureau.undo();
        }
        return bureau;
    }

    private static WaitingBureau restored(Maker maker, int slot) {
        WaitingBureau bureau = maker.make();
        bureau.restore(slot);
        return bureau;
    }

    /** The object for some next calls. */
    private WaitingBureau next(int calls) {
        if (left < calls) {
            bureau = maker.make();
            left = CALLS;
        }
        left -= calls;
        return bureau;
    }

    private void put(Object answer) {
        all.append(' ').append(answer);
    }

    private void put(Check.Call call) {
        put(Check.outcome(call));
    }

    private void textAndOutput() {
        WaitingBureau one = maker.make();
        put(one.errorCode());
        put(one.errorPosition());
        all.append(" output ");
        for (int place = 0; place < 200; place++) {
            int at = place;
            put(() -> one.outputByte(at));
        }
        all.append(" buffer ");
        put(bufferLength(maker.make()));
        for (int i = 0; i < 2; i++) {
            boolean isOffice = i == 0;
            WaitingBureau other = maker.make();
            put(() -> other.find(isOffice));
        }
    }

    /** The length is what append() answers, less what it appends. */
    private static Object bufferLength(WaitingBureau bureau) {
        return Check.outcome(() -> bureau.append(0, 0, 0, 0, 0) - 20);
    }

    private void counts() {
        all.append("\ncounts ");
        for (int i = 0; i < 12; i++) {
            put(next(1).count(i));
        }
        for (int i = 0; i < 5; i++) {
            put(next(1).setting(i));
        }
        put(next(1).debt());
        put(next(1).meanWait());
        put(next(1).repaid());
        put(next(1).unluckiest());
        put(next(1).gap());
        put(next(1).tokensIn(20));
        put(next(1).bestOffice());
    }

    private void offices() {
        int offices = next(1).count(0);
        for (int i = 0; i < offices; i++) {
            int office = i;
            all.append("\noffice ");
            for (int what = 0; what < 6; what++) {
                put(next(1).office(office, what));
            }
            int length = next(1).office(office, 4);
            for (int place = 0; place < length; place++) {
                put(next(1).queued(office, place));
            }
            put(next(1).queueIn(office, 3));
            put(() -> next(1).servedIf(office));
        }
    }

    private void persons() {
        int persons = next(1).count(1);
        int time = next(1).count(3);
        for (int person = 0; person < persons; person++) {
            all.append("\nperson ");
            for (int what = 0; what < 10; what++) {
                put(next(1).person(person, what));
            }
            for (int hour = Math.max(0, time - 40); hour < Math.min(1000, time + 1); hour++) {
                all.append(next(1).isPaidFor(person, hour) ? '+' : '-');
            }
        }
    }

    private void tickets() {
        int tickets = next(1).count(2);
        int persons = next(1).count(1);
        for (int i = 0; i < tickets; i++) {
            int ticket = i;
            all.append("\nticket ");
            for (int what = 0; what < 11; what++) {
                put(next(1).ticket(ticket, what));
            }
            put(next(1).worth(ticket));
            put(() -> next(1).servedIn(ticket));
            for (int person = 0; person < persons; person++) {
                put(next(1).whyNot(ticket, person));
                put(next(1).common(ticket, person));
                put(next(1).isWitness(ticket, person));
            }
        }
    }

    private void tokens() {
        int tokens = next(1).count(8);
        for (int token = 0; token < tokens; token++) {
            all.append("\ntoken ");
            for (int what = 0; what < 5; what++) {
                put(next(1).token(token, what));
            }
        }
    }

    private void names() {
        all.append("\nnames ");
        for (String name : NAMES) {
            for (int i = 0; i < 2; i++) {
                boolean isOffice = i == 0;
                WaitingBureau other = next(4);
                Check.put(other, name);
                put(() -> other.find(isOffice));
            }
        }
    }
}
