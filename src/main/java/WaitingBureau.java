import java.util.Arrays;
import java.util.NoSuchElementException;

/** A bureau that pays back hours that were lost by waiting. */
public final class WaitingBureau {
    /** There is no such value. */
    public static final int NONE = -1;

    /** States of a ticket. */
    public static final int WAITING = 0, SERVED = 1, LEFT = 2;

    /** States of a token. */
    public static final int HELD = 0, OFFERED = 1, PAID = 2;

    private static final int MAX_OFFICES = 6;
    private static final int MAX_PERSONS = 16;
    private static final int MAX_TICKETS = 60;
    private static final int MAX_TOKENS = 200;
    private static final int MAX_TEXT = 1000;
    private static final int MAX_NAME = 6;
    private static final int MAX_TIME = 999;
    private static final int MAX_FUND = 99999;
    private static final int MAX_DEPOSIT = 9999;
    private static final int MAX_PASS = 99;
    private static final int MAX_FORETOLD = 200;
    private static final int MAX_KEPT = 8;
    private static final int SLOTS = 2;
    private static final int WEEK = 20;
    private static final int WITNESS_TIMES = 3;

    // A person waits at most once in a queue, so a queue never has more tickets than there are persons.
    private static final int QUEUE_ROOM = MAX_PERSONS;

    private static final int GRACE = 0, NEED = 1, OVERLAP = 2, CAP = 3, PRICE = 4;
    private static final int SETTINGS = 5;
    private static final int[] LOWEST = {0, 0, 1, 1, 1};
    private static final int[] HIGHEST = {9, 3, 9, 20, 99};

    private static final int MAX_DESKS = 4, MAX_PACE = 6, MAX_LIMIT = 20;

    // A name is kept as a number with five bits for each letter; a is 1, so that no letter is nothing.
    private static final int LETTER_BITS = 5;
    private static final int LETTER_MASK = 31;
    private static final int BEFORE_A = 'a' - 1;

    private final State now = new State();
    private final History history = new History();
    private final State[] saved = new State[SLOTS];
    private final boolean[] isSaved = new boolean[SLOTS];
    private final Text output = new Text();
    private final HourSet lost = new HourSet();
    private final Loader loader = new Loader();
    private final Text text = loader.reader.text;
    // What is loaded or foretold is tried out in the loader's state, so that no call needs a new one.
    private final State spare = loader.state;

    public WaitingBureau() {
        for (int slot = 0; slot < SLOTS; slot++) {
            saved[slot] = new State();
        }
        now.settings[GRACE] = 1;
        now.settings[NEED] = 1;
        now.settings[OVERLAP] = 2;
        now.settings[CAP] = 5;
        now.settings[PRICE] = 3;
        now.fund = 20;
        now.offices.add('a' - BEFORE_A, 1, 2, 6);
        now.offices.add('b' - BEFORE_A, 1, 1, 4);
        now.persons.add('x' - BEFORE_A);
        now.persons.add('y' - BEFORE_A);
        now.persons.add('z' - BEFORE_A);
    }

    // ---- the text

    public int append(int a, int b, int c, int d, int e) throws IllegalStateException {
        if (text.length + 20 > MAX_TEXT) {
            throw new IllegalStateException("the text would be too long");
        }
        text.putInt(a);
        text.putInt(b);
        text.putInt(c);
        text.putInt(d);
        text.putInt(e);
        return text.length;
    }

    public int truncate(int length) throws IndexOutOfBoundsException {
        if (length < 0 || length > text.length) {
            throw new IndexOutOfBoundsException("the text has no such length");
        }
        text.length = length;
        return length;
    }

    public int load() throws IllegalArgumentException {
        loader.start();
        boolean good = loader.readHead() && loader.readOffices() && loader.readPersons() && loader.readDeeds();
        text.length = 0;
        if (!good) {
            throw new IllegalArgumentException("the text has an error");
        }
        now.copyFrom(spare);
        history.forget();
        for (int slot = 0; slot < SLOTS; slot++) {
            isSaved[slot] = false;
        }
        output.length = 0;
        return now.persons.count;
    }

    public int errorCode() {
        return loader.wrongCode;
    }

    public int errorPosition() {
        return loader.wrongPosition;
    }

    public int find(boolean isOffice) throws NoSuchElementException {
        int name = text.nameOf(0, text.length);
        text.length = 0;
        int number = isOffice ? now.offices.named(name) : now.persons.named(name);
        if (number == NONE) {
            throw new NoSuchElementException("nothing has this name");
        }
        return number;
    }

    // ---- what there is

    public int count(int what) throws IllegalArgumentException {
        switch (what) {
            case 0: return now.offices.count;
            case 1: return now.persons.count;
            case 2: return now.tickets.count;
            case 3: return now.time;
            case 4: return WEEK - now.time % WEEK;
            case 5: return now.tickets.inState(WAITING);
            case 6: return now.tickets.atClaim(Tickets.CLAIMED);
            case 7: return now.tickets.atClaim(Tickets.PROVEN);
            case 8: return now.tokens.count;
            case 9: return now.tokens.inState(OFFERED);
            case 10: return now.tokens.inState(PAID);
            case 11: return now.fund;
            case 12: return history.count;
            default: throw new IllegalArgumentException("there is no such count");
        }
    }

    public int setting(int what) throws IllegalArgumentException {
        requireSetting(what);
        return now.settings[what];
    }

    public int office(int office, int what) throws IndexOutOfBoundsException, IllegalArgumentException {
        requireOffice(office);
        switch (what) {
            case 0: return now.offices.desks[office];
            case 1: return now.offices.pace[office];
            case 2: return now.offices.limit[office];
            case 3: return now.offices.open[office] ? 1 : 0;
            case 4: return now.offices.length[office];
            case 5: return now.tickets.servedBy(office);
            default: throw new IllegalArgumentException("an office has no such number");
        }
    }

    public int queued(int office, int place) throws IndexOutOfBoundsException {
        requireOffice(office);
        if (place < 0 || place >= now.offices.length[office]) {
            throw new IndexOutOfBoundsException("the queue has no such place");
        }
        return now.offices.waiting(office, place);
    }

    public int person(int person, int what) throws IndexOutOfBoundsException, IllegalArgumentException {
        requirePerson(person);
        switch (what) {
            case 0: return now.persons.purse[person];
            case 1: return now.tickets.of(person);
            case 2: return now.tickets.waitingOf(person);
            case 3: return now.tokens.owned(person, HELD);
            case 4: return now.tokens.owned(person, OFFERED);
            case 5: return now.tokens.owned(person, PAID);
            case 6: return now.tokensOfTicketsOf(person);
            case 7: return now.persons.made[person];
            case 8: return now.persons.witnessed[person];
            case 9:
                now.gatherLost(person, lost);
                return lost.sizeWithout(now.persons.paidFor[person]);
            default: throw new IllegalArgumentException("a person has no such number");
        }
    }

    public int ticket(int ticket, int what) throws IndexOutOfBoundsException, IllegalArgumentException {
        requireTicket(ticket);
        Tickets tickets = now.tickets;
        switch (what) {
            case 0: return tickets.person[ticket];
            case 1: return tickets.office[ticket];
            case 2: return tickets.joined[ticket];
            case 3: return tickets.ended[ticket];
            case 4: return tickets.state[ticket];
            case 5: return tickets.claim[ticket] == Tickets.UNCLAIMED ? 0 : 1;
            case 6: return tickets.claim[ticket] == Tickets.PROVEN ? 1 : 0;
            case 7: return Integer.bitCount(tickets.witnesses[ticket]);
            case 8: return now.lostHours(ticket);
            case 9: return now.tokens.madeFor(ticket);
            case 10: return now.offices.placeOf(tickets.office[ticket], ticket);
            default: throw new IllegalArgumentException("a ticket has no such number");
        }
    }

    public int token(int token, int what) throws IndexOutOfBoundsException, IllegalArgumentException {
        if (token < 0 || token >= now.tokens.count) {
            throw new IndexOutOfBoundsException("there is no such token");
        }
        switch (what) {
            case 0: return now.tokens.owner[token];
            case 1: return now.tokens.ticket[token];
            case 2: return now.tokens.hour[token];
            case 3: return now.tokens.state[token];
            case 4: return now.tokens.placeOf(token);
            default: throw new IllegalArgumentException("a token has no such number");
        }
    }

    public boolean isPaidFor(int person, int hour) throws IndexOutOfBoundsException, IllegalArgumentException {
        requirePerson(person);
        if (hour < 0 || hour > MAX_TIME) {
            throw new IllegalArgumentException("there is no such hour");
        }
        return now.persons.paidFor[person].has(hour);
    }

    // ---- witnesses

    public int whyNot(int ticket, int person) throws IndexOutOfBoundsException {
        requireTicket(ticket);
        requirePerson(person);
        return now.reasonAgainst(ticket, person);
    }

    public int common(int ticket, int person) throws IndexOutOfBoundsException {
        requireTicket(ticket);
        requirePerson(person);
        return now.commonHours(ticket, person);
    }

    public int witnessFor(int ticket, int place) throws IndexOutOfBoundsException, NoSuchElementException {
        requireTicket(ticket);
        int found = 0;
        for (int person = 0; person < now.persons.count; person++) {
            if (now.reasonAgainst(ticket, person) == 0) {
                if (found == place) {
                    return person;
                }
                found++;
            }
        }
        throw new NoSuchElementException("there are not so many");
    }

    public boolean isWitness(int ticket, int person) throws IndexOutOfBoundsException {
        requireTicket(ticket);
        requirePerson(person);
        return now.tickets.hasWitness(ticket, person);
    }

    public int worth(int ticket) throws IndexOutOfBoundsException {
        requireTicket(ticket);
        return now.tickets.state[ticket] == SERVED ? now.tokensDue(ticket) : 0;
    }

    // ---- accounts

    public int debt() {
        return (now.tokens.count - now.tokens.inState(PAID)) * now.settings[PRICE];
    }

    public double meanWait() {
        int served = now.tickets.inState(SERVED);
        return served == 0 ? 0.0 : (double) now.tickets.servedHours() / (double) served;
    }

    public double repaid() {
        int hours = 0;
        for (int person = 0; person < now.persons.count; person++) {
            now.gatherLost(person, lost);
            hours += lost.size();
        }
        return hours == 0 ? 0.0 : (double) now.tokens.count / (double) hours;
    }

    public int unluckiest() {
        int worst = NONE;
        int most = 0;
        for (int person = 0; person < now.persons.count; person++) {
            now.gatherLost(person, lost);
            int hours = lost.size();
            if (hours > most) {
                worst = person;
                most = hours;
            }
        }
        return worst;
    }

    public int gap() {
        Tokens tokens = now.tokens;
        int inNoState = tokens.count - tokens.inState(HELD) - tokens.inState(OFFERED) - tokens.inState(PAID);
        return inNoState + now.doublyPaidPairs();
    }

    // ---- what will happen if nothing but hours comes; nothing changes

    public int servedIn(int ticket) throws IndexOutOfBoundsException, NoSuchElementException {
        requireTicket(ticket);
        if (now.tickets.state[ticket] == SERVED) {
            return 0;
        }
        int office = now.tickets.office[ticket];
        int place = now.offices.placeOf(office, ticket);
        if (place == NONE) {
            throw new NoSuchElementException("the ticket left");
        }
        int hours = now.offices.hoursUntilServed(office, place, now.time);
        if (hours > MAX_FORETOLD) {
            throw new NoSuchElementException("the ticket will not be served so soon");
        }
        return hours;
    }

    public int queueIn(int office, int hours) throws IndexOutOfBoundsException, IllegalArgumentException {
        requireOffice(office);
        requireForetold(hours);
        return now.offices.lengthIn(office, hours, now.time);
    }

    public int tokensIn(int hours) throws IllegalArgumentException {
        requireForetold(hours);
        spare.copyFrom(now);
        spare.passHours(hours);
        return spare.tokens.count;
    }

    public int servedIf(int office) throws IndexOutOfBoundsException, NoSuchElementException {
        requireOffice(office);
        int hours = hoursForNewcomer(office);
        if (hours == NONE) {
            throw new NoSuchElementException("nobody who joined would be served so soon");
        }
        return hours;
    }

    public int bestOffice() throws NoSuchElementException {
        int best = NONE;
        int fewest = MAX_FORETOLD + 1;
        for (int office = 0; office < now.offices.count; office++) {
            int hours = hoursForNewcomer(office);
            if (hours != NONE && hours < fewest) {
                best = office;
                fewest = hours;
            }
        }
        if (best == NONE) {
            throw new NoSuchElementException("no office would serve anybody so soon");
        }
        return best;
    }

    public int longestIfMerged(int office, int other)
            throws IndexOutOfBoundsException, IllegalStateException, NoSuchElementException {
        requireMergeable(office, other);
        spare.copyFrom(now);
        spare.mergeOffices(office, other);
        int longest = spare.longestWait();
        if (longest == NONE) {
            throw new NoSuchElementException("not all will be served so soon");
        }
        return longest;
    }

    // ---- the output

    public int write(int office) throws IndexOutOfBoundsException {
        requireOffice(office);
        output.length = 0;
        for (int place = 0; place < now.offices.length[office]; place++) {
            int ticket = now.offices.waiting(office, place);
            if (place > 0) {
                output.putByte(' ');
            }
            output.putName(now.persons.name[now.tickets.person[ticket]]);
            output.putByte('@');
            output.putNumber(now.tickets.joined[ticket]);
        }
        if (!now.offices.open[office]) {
            output.putByte('!');
        }
        return output.length;
    }

    public int outputByte(int place) throws IndexOutOfBoundsException {
        if (place < 0 || place >= output.length) {
            throw new IndexOutOfBoundsException("the output has no such byte");
        }
        return output.bytes[place];
    }

    // ---- changes

    public int join(int person, int office) throws IndexOutOfBoundsException, IllegalStateException {
        requirePerson(person);
        requireOffice(office);
        if (!now.canQueue(person, office)) {
            throw new IllegalStateException("the person cannot join the office");
        }
        history.keep(now);
        return now.queueUp(person, office);
    }

    public int leave(int ticket) throws IndexOutOfBoundsException, IllegalStateException {
        requireTicket(ticket);
        if (now.tickets.state[ticket] != WAITING) {
            throw new IllegalStateException("the ticket does not wait");
        }
        history.keep(now);
        int office = now.tickets.office[ticket];
        now.offices.removeAt(office, now.offices.placeOf(office, ticket));
        now.tickets.end(ticket, LEFT, now.time);
        return now.time - now.tickets.joined[ticket];
    }

    public int pass(int hours) throws IllegalArgumentException, IllegalStateException {
        if (hours < 1 || hours > MAX_PASS) {
            throw new IllegalArgumentException("so many hours cannot pass");
        }
        if (!now.canPass(hours)) {
            throw new IllegalStateException("the time would be too great");
        }
        history.keep(now);
        return now.passHours(hours);
    }

    public int claim(int ticket) throws IndexOutOfBoundsException, IllegalStateException {
        requireTicket(ticket);
        if (!now.canClaim(ticket)) {
            throw new IllegalStateException("the ticket cannot be claimed");
        }
        history.keep(now);
        return now.makeClaim(ticket);
    }

    public int witness(int ticket, int person) throws IndexOutOfBoundsException, IllegalStateException {
        requireTicket(ticket);
        requirePerson(person);
        if (now.reasonAgainst(ticket, person) != 0) {
            throw new IllegalStateException("the person cannot be a witness of the ticket");
        }
        history.keep(now);
        return now.addWitness(ticket, person);
    }

    public int give(int person, int other, int many)
            throws IndexOutOfBoundsException, IllegalArgumentException, IllegalStateException {
        requirePerson(person);
        requirePerson(other);
        requireManyTokens(many);
        if (person == other || now.tokens.owned(person, HELD) < many) {
            throw new IllegalStateException("the person cannot give so many tokens to the other one");
        }
        history.keep(now);
        now.tokens.handOver(person, other, many);
        return now.tokens.owned(other, HELD);
    }

    public int offer(int person, int many)
            throws IndexOutOfBoundsException, IllegalArgumentException, IllegalStateException {
        requirePerson(person);
        requireManyTokens(many);
        if (now.tokens.owned(person, HELD) < many) {
            throw new IllegalStateException("the person does not hold so many tokens");
        }
        history.keep(now);
        now.tokens.putUp(person, many);
        return now.settle();
    }

    public int deposit(int amount) throws IllegalArgumentException, IllegalStateException {
        if (amount < 1 || amount > MAX_DEPOSIT) {
            throw new IllegalArgumentException("there is no such deposit");
        }
        if (now.fund + amount > MAX_FUND) {
            throw new IllegalStateException("the fund would be too great");
        }
        history.keep(now);
        now.fund += amount;
        now.settle();
        return now.fund;
    }

    public int merge(int office, int other) throws IndexOutOfBoundsException, IllegalStateException {
        requireMergeable(office, other);
        history.keep(now);
        now.mergeOffices(office, other);
        return now.offices.length[other];
    }

    public int reopen(int office) throws IndexOutOfBoundsException, IllegalStateException {
        requireOffice(office);
        if (now.offices.open[office]) {
            throw new IllegalStateException("the office is open");
        }
        history.keep(now);
        now.offices.open[office] = true;
        return now.offices.openOnes();
    }

    public int addPerson() throws IllegalArgumentException, IllegalStateException {
        int name = text.nameOf(0, text.length);
        text.length = 0;
        if (name == NONE) {
            throw new IllegalArgumentException("the text is no name");
        }
        if (now.persons.count >= MAX_PERSONS || now.persons.named(name) != NONE) {
            throw new IllegalStateException("there is no room for a person with this name");
        }
        history.keep(now);
        now.persons.add(name);
        return now.persons.count - 1;
    }

    public int set(int what, int value) throws IllegalArgumentException {
        requireSetting(what);
        if (value < LOWEST[what] || value > HIGHEST[what]) {
            throw new IllegalArgumentException("the setting cannot have this value");
        }
        history.keep(now);
        int before = now.settings[what];
        now.settings[what] = value;
        return before;
    }

    public int undo() throws IllegalStateException {
        if (history.count == 0) {
            throw new IllegalStateException("there is no change that can be undone");
        }
        history.bringBack(now);
        return history.count;
    }

    public void save(int slot) throws IndexOutOfBoundsException {
        requireSlot(slot);
        saved[slot].copyFrom(now);
        isSaved[slot] = true;
    }

    public void restore(int slot) throws IndexOutOfBoundsException, NoSuchElementException {
        requireSlot(slot);
        if (!isSaved[slot]) {
            throw new NoSuchElementException("nothing is saved in the slot");
        }
        now.copyFrom(saved[slot]);
        history.forget();
    }

    // ---- what the calls above have in common

    private void requireOffice(int office) {
        if (office < 0 || office >= now.offices.count) {
            throw new IndexOutOfBoundsException("there is no such office");
        }
    }

    private void requirePerson(int person) {
        if (person < 0 || person >= now.persons.count) {
            throw new IndexOutOfBoundsException("there is no such person");
        }
    }

    private void requireTicket(int ticket) {
        if (ticket < 0 || ticket >= now.tickets.count) {
            throw new IndexOutOfBoundsException("there is no such ticket");
        }
    }

    private void requireSlot(int slot) {
        if (slot < 0 || slot >= SLOTS) {
            throw new IndexOutOfBoundsException("there is no such slot");
        }
    }

    private void requireSetting(int what) {
        if (what < 0 || what >= SETTINGS) {
            throw new IllegalArgumentException("there is no such setting");
        }
    }

    private void requireForetold(int hours) {
        if (hours < 0 || hours > MAX_FORETOLD) {
            throw new IllegalArgumentException("so many hours are not foretold");
        }
    }

    private void requireManyTokens(int many) {
        if (many < 1 || many > MAX_TOKENS) {
            throw new IllegalArgumentException("there are never so many tokens");
        }
    }

    private void requireMergeable(int office, int other) {
        requireOffice(office);
        requireOffice(other);
        if (office == other || !now.offices.open[office] || !now.offices.open[other]) {
            throw new IllegalStateException("the offices cannot be merged");
        }
    }

    /** The hours until somebody is served who joins an office now, or NONE. */
    private int hoursForNewcomer(int office) {
        if (!now.offices.open[office]) {
            return NONE;
        }
        int hours = now.offices.hoursUntilServed(office, now.offices.length[office], now.time);
        return hours > MAX_FORETOLD ? NONE : hours;
    }

    /** A set of hours of the times 0 to 999. */
    private static final class HourSet {
        static final int WORDS = MAX_TIME / 64 + 1;

        final long[] words = new long[WORDS];

        boolean has(int hour) {
            return hour >= 0 && hour <= MAX_TIME && (words[hour >> 6] >>> (hour & 63) & 1L) != 0L;
        }

        void add(int hour) {
            if (hour >= 0 && hour <= MAX_TIME) {
                words[hour >> 6] |= 1L << (hour & 63);
            }
        }

        void clear() {
            Arrays.fill(words, 0L);
        }

        int size() {
            int hours = 0;
            for (int i = 0; i < WORDS; i++) {
                hours += Long.bitCount(words[i]);
            }
            return hours;
        }

        int sizeWithout(HourSet others) {
            int hours = 0;
            for (int i = 0; i < WORDS; i++) {
                hours += Long.bitCount(words[i] & ~others.words[i]);
            }
            return hours;
        }

        void copyFrom(HourSet from) {
            System.arraycopy(from.words, 0, words, 0, WORDS);
        }
    }

    /** The offices and their queues. */
    private static final class Offices {
        int count;
        final int[] name = new int[MAX_OFFICES];
        final int[] desks = new int[MAX_OFFICES];
        final int[] pace = new int[MAX_OFFICES];
        final int[] limit = new int[MAX_OFFICES];
        final boolean[] open = new boolean[MAX_OFFICES];
        final int[] length = new int[MAX_OFFICES];
        final int[] queue = new int[MAX_OFFICES * QUEUE_ROOM];

        void copyFrom(Offices from) {
            count = from.count;
            System.arraycopy(from.name, 0, name, 0, MAX_OFFICES);
            System.arraycopy(from.desks, 0, desks, 0, MAX_OFFICES);
            System.arraycopy(from.pace, 0, pace, 0, MAX_OFFICES);
            System.arraycopy(from.limit, 0, limit, 0, MAX_OFFICES);
            System.arraycopy(from.length, 0, length, 0, MAX_OFFICES);
            System.arraycopy(from.queue, 0, queue, 0, MAX_OFFICES * QUEUE_ROOM);
            for (int office = 0; office < MAX_OFFICES; office++) {
                open[office] = from.open[office];
            }
        }

        void add(int newName, int newDesks, int newPace, int newLimit) {
            if (count >= MAX_OFFICES) {
                return;
            }
            name[count] = newName;
            desks[count] = newDesks;
            pace[count] = newPace;
            limit[count] = newLimit;
            open[count] = true;
            length[count] = 0;
            count++;
        }

        int named(int sought) {
            for (int office = 0; office < count; office++) {
                if (name[office] == sought) {
                    return office;
                }
            }
            return NONE;
        }

        int openOnes() {
            int many = 0;
            for (int office = 0; office < count; office++) {
                many += open[office] ? 1 : 0;
            }
            return many;
        }

        int waiting(int office, int place) {
            return queue[office * QUEUE_ROOM + place];
        }

        int placeOf(int office, int ticket) {
            for (int place = 0; place < length[office]; place++) {
                if (waiting(office, place) == ticket) {
                    return place;
                }
            }
            return NONE;
        }

        void insertAt(int office, int place, int ticket) {
            if (place < 0 || place > length[office] || length[office] >= QUEUE_ROOM) {
                return;
            }
            int first = office * QUEUE_ROOM;
            for (int i = length[office]; i > place; i--) {
                queue[first + i] = queue[first + i - 1];
            }
            queue[first + place] = ticket;
            length[office]++;
        }

        void removeAt(int office, int place) {
            if (place < 0 || place >= length[office]) {
                return;
            }
            int first = office * QUEUE_ROOM;
            for (int i = place + 1; i < length[office]; i++) {
                queue[first + i - 1] = queue[first + i];
            }
            length[office]--;
        }

        /** How many tickets of an office are served when a time comes. */
        int dueAt(int office, int time) {
            if (!open[office] || time % Math.max(1, pace[office]) != 0) {
                return 0;
            }
            return Math.min(desks[office], length[office]);
        }

        int hoursUntilServed(int office, int place, int time) {
            int beat = Math.max(1, pace[office]);
            int rounds = place / Math.max(1, desks[office]) + 1;
            return (time / beat + rounds) * beat - time;
        }

        int lengthIn(int office, int hours, int time) {
            int beat = Math.max(1, pace[office]);
            int rounds = (time + hours) / beat - time / beat;
            return Math.max(0, length[office] - rounds * desks[office]);
        }
    }

    /** The persons, with what is counted of them in this week. */
    private static final class Persons {
        int count;
        final int[] name = new int[MAX_PERSONS];
        final int[] purse = new int[MAX_PERSONS];
        final int[] made = new int[MAX_PERSONS];
        final int[] witnessed = new int[MAX_PERSONS];
        // A bit for each person whose ticket it was a witness of in this week.
        final int[] helped = new int[MAX_PERSONS];
        final HourSet[] paidFor = new HourSet[MAX_PERSONS];

        Persons() {
            for (int person = 0; person < MAX_PERSONS; person++) {
                paidFor[person] = new HourSet();
            }
        }

        void copyFrom(Persons from) {
            count = from.count;
            System.arraycopy(from.name, 0, name, 0, MAX_PERSONS);
            System.arraycopy(from.purse, 0, purse, 0, MAX_PERSONS);
            System.arraycopy(from.made, 0, made, 0, MAX_PERSONS);
            System.arraycopy(from.witnessed, 0, witnessed, 0, MAX_PERSONS);
            System.arraycopy(from.helped, 0, helped, 0, MAX_PERSONS);
            for (int person = 0; person < count; person++) {
                paidFor[person].copyFrom(from.paidFor[person]);
            }
        }

        void add(int newName) {
            if (count >= MAX_PERSONS) {
                return;
            }
            name[count] = newName;
            purse[count] = 0;
            made[count] = 0;
            witnessed[count] = 0;
            helped[count] = 0;
            paidFor[count].clear();
            count++;
        }

        int named(int sought) {
            for (int person = 0; person < count; person++) {
                if (name[person] == sought) {
                    return person;
                }
            }
            return NONE;
        }

        void beginWeek() {
            Arrays.fill(made, 0);
            Arrays.fill(witnessed, 0);
            Arrays.fill(helped, 0);
        }
    }

    /** The tickets, with their claims and witnesses. */
    private static final class Tickets {
        static final int UNCLAIMED = 0, CLAIMED = 1, PROVEN = 2;

        int count;
        final int[] person = new int[MAX_TICKETS];
        final int[] office = new int[MAX_TICKETS];
        final int[] joined = new int[MAX_TICKETS];
        final int[] ended = new int[MAX_TICKETS];
        final int[] state = new int[MAX_TICKETS];
        final int[] claim = new int[MAX_TICKETS];
        // A bit for each person who is a witness.
        final int[] witnesses = new int[MAX_TICKETS];

        void copyFrom(Tickets from) {
            count = from.count;
            System.arraycopy(from.person, 0, person, 0, count);
            System.arraycopy(from.office, 0, office, 0, count);
            System.arraycopy(from.joined, 0, joined, 0, count);
            System.arraycopy(from.ended, 0, ended, 0, count);
            System.arraycopy(from.state, 0, state, 0, count);
            System.arraycopy(from.claim, 0, claim, 0, count);
            System.arraycopy(from.witnesses, 0, witnesses, 0, count);
        }

        void add(int newPerson, int newOffice, int time) {
            if (count >= MAX_TICKETS) {
                return;
            }
            person[count] = newPerson;
            office[count] = newOffice;
            joined[count] = time;
            ended[count] = NONE;
            state[count] = WAITING;
            claim[count] = UNCLAIMED;
            witnesses[count] = 0;
            count++;
        }

        void end(int ticket, int newState, int time) {
            state[ticket] = newState;
            ended[ticket] = time;
        }

        /** The time at which a ticket ended, or the present time. */
        int lastTime(int ticket, int time) {
            return ended[ticket] == NONE ? time : ended[ticket];
        }

        boolean hasWitness(int ticket, int sought) {
            return (witnesses[ticket] >> sought & 1) != 0;
        }

        int latestOf(int sought) {
            for (int ticket = count - 1; ticket >= 0; ticket--) {
                if (person[ticket] == sought) {
                    return ticket;
                }
            }
            return NONE;
        }

        int inState(int sought) {
            int many = 0;
            for (int ticket = 0; ticket < count; ticket++) {
                many += state[ticket] == sought ? 1 : 0;
            }
            return many;
        }

        int atClaim(int sought) {
            int many = 0;
            for (int ticket = 0; ticket < count; ticket++) {
                many += claim[ticket] == sought ? 1 : 0;
            }
            return many;
        }

        int servedBy(int sought) {
            int many = 0;
            for (int ticket = 0; ticket < count; ticket++) {
                many += state[ticket] == SERVED && office[ticket] == sought ? 1 : 0;
            }
            return many;
        }

        int of(int sought) {
            int many = 0;
            for (int ticket = 0; ticket < count; ticket++) {
                many += person[ticket] == sought ? 1 : 0;
            }
            return many;
        }

        int waitingOf(int sought) {
            int many = 0;
            for (int ticket = 0; ticket < count; ticket++) {
                many += person[ticket] == sought && state[ticket] == WAITING ? 1 : 0;
            }
            return many;
        }

        int servedHours() {
            int hours = 0;
            for (int ticket = 0; ticket < count; ticket++) {
                hours += state[ticket] == SERVED ? ended[ticket] - joined[ticket] : 0;
            }
            return hours;
        }
    }

    /** The tokens and the row of those that are offered. */
    private static final class Tokens {
        int count;
        final int[] owner = new int[MAX_TOKENS];
        final int[] ticket = new int[MAX_TOKENS];
        final int[] hour = new int[MAX_TOKENS];
        final int[] state = new int[MAX_TOKENS];
        int rowLength;
        final int[] row = new int[MAX_TOKENS];

        void copyFrom(Tokens from) {
            count = from.count;
            System.arraycopy(from.owner, 0, owner, 0, count);
            System.arraycopy(from.ticket, 0, ticket, 0, count);
            System.arraycopy(from.hour, 0, hour, 0, count);
            System.arraycopy(from.state, 0, state, 0, count);
            rowLength = from.rowLength;
            System.arraycopy(from.row, 0, row, 0, rowLength);
        }

        void add(int newOwner, int newTicket, int newHour) {
            if (count >= MAX_TOKENS) {
                return;
            }
            owner[count] = newOwner;
            ticket[count] = newTicket;
            hour[count] = newHour;
            state[count] = HELD;
            count++;
        }

        int inState(int sought) {
            int many = 0;
            for (int token = 0; token < count; token++) {
                many += state[token] == sought ? 1 : 0;
            }
            return many;
        }

        int owned(int person, int sought) {
            int many = 0;
            for (int token = 0; token < count; token++) {
                many += owner[token] == person && state[token] == sought ? 1 : 0;
            }
            return many;
        }

        int madeFor(int sought) {
            int many = 0;
            for (int token = 0; token < count; token++) {
                many += ticket[token] == sought ? 1 : 0;
            }
            return many;
        }

        int placeOf(int token) {
            for (int place = 0; place < rowLength; place++) {
                if (row[place] == token) {
                    return place;
                }
            }
            return NONE;
        }

        void handOver(int person, int other, int many) {
            int left = many;
            for (int token = 0; token < count && left > 0; token++) {
                if (owner[token] == person && state[token] == HELD) {
                    owner[token] = other;
                    left--;
                }
            }
        }

        void putUp(int person, int many) {
            int left = many;
            for (int token = 0; token < count && left > 0 && rowLength < MAX_TOKENS; token++) {
                if (owner[token] == person && state[token] == HELD) {
                    state[token] = OFFERED;
                    row[rowLength] = token;
                    rowLength++;
                    left--;
                }
            }
        }

        void dropFirst(int many) {
            for (int place = many; place < rowLength; place++) {
                row[place - many] = row[place];
            }
            rowLength -= many;
        }
    }

    /** All that can be saved, restored and undone. */
    private static final class State {
        final int[] settings = new int[SETTINGS];
        int fund;
        int time;
        final Offices offices = new Offices();
        final Persons persons = new Persons();
        final Tickets tickets = new Tickets();
        final Tokens tokens = new Tokens();

        void clear() {
            fund = 0;
            time = 0;
            offices.count = 0;
            persons.count = 0;
            tickets.count = 0;
            tokens.count = 0;
            tokens.rowLength = 0;
        }

        void copyFrom(State from) {
            System.arraycopy(from.settings, 0, settings, 0, SETTINGS);
            fund = from.fund;
            time = from.time;
            offices.copyFrom(from.offices);
            persons.copyFrom(from.persons);
            tickets.copyFrom(from.tickets);
            tokens.copyFrom(from.tokens);
        }

        // -- queues

        boolean canQueue(int person, int office) {
            return tickets.count < MAX_TICKETS
                    && offices.open[office]
                    && offices.length[office] < offices.limit[office]
                    && placeOfPerson(office, person) == NONE;
        }

        int queueUp(int person, int office) {
            int ticket = tickets.count;
            tickets.add(person, office, time);
            offices.insertAt(office, offices.length[office], ticket);
            return ticket;
        }

        int placeOfPerson(int office, int person) {
            for (int place = 0; place < offices.length[office]; place++) {
                if (tickets.person[offices.waiting(office, place)] == person) {
                    return place;
                }
            }
            return NONE;
        }

        void mergeOffices(int office, int other) {
            for (int place = 0; place < offices.length[office]; place++) {
                moveTo(other, offices.waiting(office, place));
            }
            offices.length[office] = 0;
            offices.open[office] = false;
        }

        void moveTo(int other, int ticket) {
            int place = placeByJoined(other, tickets.joined[ticket]);
            int twinPlace = placeOfPerson(other, tickets.person[ticket]);
            tickets.office[ticket] = other;
            if (twinPlace != NONE && twinPlace < place) {
                tickets.end(ticket, LEFT, time);
                return;
            }
            if (twinPlace != NONE) {
                tickets.end(offices.waiting(other, twinPlace), LEFT, time);
                offices.removeAt(other, twinPlace);
            }
            offices.insertAt(other, place, ticket);
        }

        /** The place behind all tickets of a queue that joined at a time or earlier. */
        int placeByJoined(int office, int joined) {
            int place = 0;
            while (place < offices.length[office] && tickets.joined[offices.waiting(office, place)] <= joined) {
                place++;
            }
            return place;
        }

        /** The greatest wait of all waiting tickets when they are served; NONE if that is too far off. */
        int longestWait() {
            int longest = 0;
            for (int office = 0; office < offices.count; office++) {
                for (int place = 0; place < offices.length[office]; place++) {
                    int hours = offices.hoursUntilServed(office, place, time);
                    if (hours > MAX_FORETOLD) {
                        return NONE;
                    }
                    int joined = tickets.joined[offices.waiting(office, place)];
                    longest = Math.max(longest, time + hours - joined);
                }
            }
            return longest;
        }

        // -- hours

        boolean canPass(int hours) {
            return time + hours <= MAX_TIME;
        }

        int passHours(int hours) {
            int served = 0;
            for (int i = 0; i < hours; i++) {
                time++;
                for (int office = 0; office < offices.count; office++) {
                    served += serve(office);
                }
                if (time % WEEK == 0) {
                    beginWeek();
                }
                settle();
            }
            return served;
        }

        int serve(int office) {
            int many = offices.dueAt(office, time);
            for (int i = 0; i < many; i++) {
                tickets.end(offices.waiting(office, 0), SERVED, time);
                offices.removeAt(office, 0);
            }
            return many;
        }

        void beginWeek() {
            persons.beginWeek();
            for (int ticket = 0; ticket < tickets.count; ticket++) {
                if (tickets.claim[ticket] == Tickets.PROVEN) {
                    makeTokens(ticket);
                }
            }
        }

        int lostHours(int ticket) {
            int first = tickets.joined[ticket] + settings[GRACE];
            return Math.max(0, tickets.lastTime(ticket, time) - first);
        }

        /** Gathers the hours that were lost by served tickets of a person. */
        void gatherLost(int person, HourSet lost) {
            lost.clear();
            for (int ticket = 0; ticket < tickets.count; ticket++) {
                if (tickets.person[ticket] == person && tickets.state[ticket] == SERVED) {
                    int end = tickets.ended[ticket];
                    for (int hour = tickets.joined[ticket] + settings[GRACE]; hour < end; hour++) {
                        lost.add(hour);
                    }
                }
            }
        }

        // -- claims and witnesses

        boolean canClaim(int ticket) {
            return tickets.state[ticket] == SERVED && tickets.claim[ticket] == Tickets.UNCLAIMED;
        }

        int makeClaim(int ticket) {
            tickets.claim[ticket] = Tickets.CLAIMED;
            return settings[NEED] == 0 ? prove(ticket) : 0;
        }

        int addWitness(int ticket, int person) {
            tickets.witnesses[ticket] |= 1 << person;
            persons.witnessed[person]++;
            persons.helped[person] |= 1 << tickets.person[ticket];
            return Integer.bitCount(tickets.witnesses[ticket]) >= settings[NEED] ? prove(ticket) : 0;
        }

        int prove(int ticket) {
            tickets.claim[ticket] = Tickets.PROVEN;
            return makeTokens(ticket);
        }

        /** The first reason for which a person cannot be a witness of a ticket, or 0. */
        int reasonAgainst(int ticket, int person) {
            int claimant = tickets.person[ticket];
            if (tickets.claim[ticket] == Tickets.UNCLAIMED) {
                return 1;
            }
            if (tickets.claim[ticket] == Tickets.PROVEN) {
                return 2;
            }
            if (claimant == person) {
                return 3;
            }
            if (tickets.hasWitness(ticket, person)) {
                return 4;
            }
            if (commonHours(ticket, person) < settings[OVERLAP]) {
                return 5;
            }
            if (persons.witnessed[person] >= WITNESS_TIMES) {
                return 6;
            }
            return (persons.helped[claimant] >> person & 1) != 0 ? 7 : 0;
        }

        /** The most hours that another ticket of a person at the same office has in common with a ticket. */
        int commonHours(int ticket, int person) {
            int most = 0;
            for (int other = 0; other < tickets.count; other++) {
                if (other != ticket && tickets.person[other] == person
                        && tickets.office[other] == tickets.office[ticket]) {
                    int from = Math.max(tickets.joined[ticket], tickets.joined[other]);
                    int to = Math.min(tickets.lastTime(ticket, time), tickets.lastTime(other, time));
                    most = Math.max(most, to - from);
                }
            }
            return most;
        }

        // -- tokens

        /** How many more tokens a person may get made now. */
        int tokenRoom(int person) {
            return Math.min(settings[CAP] - persons.made[person], MAX_TOKENS - tokens.count);
        }

        int tokensDue(int ticket) {
            int person = tickets.person[ticket];
            int end = tickets.ended[ticket];
            int unpaid = 0;
            for (int hour = tickets.joined[ticket] + settings[GRACE]; hour < end; hour++) {
                unpaid += persons.paidFor[person].has(hour) ? 0 : 1;
            }
            return Math.max(0, Math.min(unpaid, tokenRoom(person)));
        }

        int makeTokens(int ticket) {
            int person = tickets.person[ticket];
            int end = tickets.ended[ticket];
            int room = tokenRoom(person);
            int many = 0;
            for (int hour = tickets.joined[ticket] + settings[GRACE]; hour < end && many < room; hour++) {
                if (!persons.paidFor[person].has(hour)) {
                    persons.paidFor[person].add(hour);
                    tokens.add(person, ticket, hour);
                    many++;
                }
            }
            persons.made[person] += many;
            return many;
        }

        int settle() {
            int many = 0;
            int price = settings[PRICE];
            while (many < tokens.rowLength && fund >= price) {
                int token = tokens.row[many];
                fund -= price;
                persons.purse[tokens.owner[token]] += price;
                tokens.state[token] = PAID;
                many++;
            }
            tokens.dropFirst(many);
            return many;
        }

        int tokensOfTicketsOf(int person) {
            int many = 0;
            for (int token = 0; token < tokens.count; token++) {
                many += tickets.person[tokens.ticket[token]] == person ? 1 : 0;
            }
            return many;
        }

        int doublyPaidPairs() {
            int pairs = 0;
            for (int token = 0; token < tokens.count; token++) {
                int person = tickets.person[tokens.ticket[token]];
                for (int other = 0; other < token; other++) {
                    if (tokens.hour[other] == tokens.hour[token]
                            && tickets.person[tokens.ticket[other]] == person) {
                        pairs++;
                    }
                }
            }
            return pairs;
        }
    }

    /** The states ahead of the latest changes. */
    private static final class History {
        final State[] kept = new State[MAX_KEPT];
        int next;
        int count;

        History() {
            for (int i = 0; i < MAX_KEPT; i++) {
                kept[i] = new State();
            }
        }

        void keep(State state) {
            kept[next].copyFrom(state);
            next = (next + 1) % MAX_KEPT;
            count = Math.min(MAX_KEPT, count + 1);
        }

        void bringBack(State state) {
            next = (next + MAX_KEPT - 1) % MAX_KEPT;
            count--;
            state.copyFrom(kept[next]);
        }

        void forget() {
            count = 0;
        }
    }

    /** Bytes in a row: the text buffer and the output. */
    private static final class Text {
        final byte[] bytes = new byte[MAX_TEXT];
        int length;

        void putByte(int value) {
            if (length < MAX_TEXT) {
                bytes[length] = (byte) value;
                length++;
            }
        }

        void putInt(int value) {
            putByte(value >>> 24);
            putByte(value >>> 16);
            putByte(value >>> 8);
            putByte(value);
        }

        void putName(int name) {
            for (int shift = (MAX_NAME - 1) * LETTER_BITS; shift >= 0; shift -= LETTER_BITS) {
                int letter = name >> shift & LETTER_MASK;
                if (letter != 0) {
                    putByte(letter + BEFORE_A);
                }
            }
        }

        void putNumber(int value) {
            for (int unit = 1000; unit > 0; unit /= 10) {
                if (value >= unit || unit == 1) {
                    putByte('0' + value / unit % 10);
                }
            }
        }

        boolean isBlank(int place) {
            return bytes[place] == ' ' || bytes[place] == '\n';
        }

        boolean isLetter(int place) {
            return bytes[place] >= 'a' && bytes[place] <= 'z';
        }

        boolean isDigit(int place) {
            return bytes[place] >= '0' && bytes[place] <= '9';
        }

        /** The bytes of a range as a name, or NONE if they are no word of 1 to 6 letters. */
        int nameOf(int from, int to) {
            if (to <= from || to - from > MAX_NAME) {
                return NONE;
            }
            int name = 0;
            for (int place = from; place < to; place++) {
                if (!isLetter(place)) {
                    return NONE;
                }
                name = name << LETTER_BITS | bytes[place] - BEFORE_A;
            }
            return name;
        }
    }

    /** Reads a text token by token. */
    private static final class Reader {
        static final int WORD = 0, NUMBER = 1, SEMICOLON = 2, END = 3, WRONG = 4;
        static final int MAX_DIGITS = 5;

        final Text text = new Text();
        int kind;
        int start;
        int end;
        int number;

        void begin() {
            end = 0;
            advance();
        }

        void advance() {
            start = end;
            while (start < text.length && text.isBlank(start)) {
                start++;
            }
            end = start;
            if (start >= text.length) {
                kind = END;
            } else if (text.isLetter(start)) {
                readLetters();
            } else if (text.isDigit(start)) {
                readDigits();
            } else {
                kind = text.bytes[start] == ';' ? SEMICOLON : WRONG;
                end++;
            }
        }

        void readLetters() {
            while (end < text.length && text.isLetter(end)) {
                end++;
            }
            kind = WORD;
        }

        void readDigits() {
            number = 0;
            while (end < text.length && text.isDigit(end)) {
                if (end - start < MAX_DIGITS) {
                    number = number * 10 + text.bytes[end] - '0';
                }
                end++;
            }
            kind = end - start > MAX_DIGITS ? WRONG : NUMBER;
        }

        boolean isWord(String word) {
            if (kind != WORD || end - start != word.length()) {
                return false;
            }
            for (int i = 0; i < word.length(); i++) {
                if (text.bytes[start + i] != word.charAt(i)) {
                    return false;
                }
            }
            return true;
        }

        int name() {
            return kind == WORD ? text.nameOf(start, end) : NONE;
        }
    }

    /** Makes a state of a text; each method answers whether it found no error. */
    private static final class Loader {
        static final int MISPLACED = 1, OUT_OF_RANGE = 2, TAKEN = 3, UNKNOWN = 4, TOO_MANY = 5, IMPOSSIBLE = 6;

        final Reader reader = new Reader();
        final State state = new State();
        int wrongCode;
        int wrongPosition = NONE;
        int number;
        int name;
        int found;

        void start() {
            wrongCode = 0;
            wrongPosition = NONE;
            state.clear();
            reader.begin();
        }

        boolean readHead() {
            if (!takeWord("bureau")) {
                return false;
            }
            for (int what = 0; what < SETTINGS; what++) {
                if (!takeNumber(LOWEST[what], HIGHEST[what])) {
                    return false;
                }
                state.settings[what] = number;
            }
            if (!takeNumber(0, MAX_FUND)) {
                return false;
            }
            state.fund = number;
            return takeSemicolon();
        }

        boolean readOffices() {
            if (!reader.isWord("office")) {
                return fail(MISPLACED);
            }
            for (int i = 0; i <= MAX_OFFICES && reader.isWord("office"); i++) {
                if (!readOffice()) {
                    return false;
                }
            }
            return true;
        }

        boolean readOffice() {
            Offices offices = state.offices;
            if (offices.count >= MAX_OFFICES) {
                return fail(TOO_MANY);
            }
            reader.advance();
            if (reader.name() != NONE && offices.named(reader.name()) != NONE) {
                return fail(TAKEN);
            }
            if (!takeName()) {
                return false;
            }
            int officeName = name;
            if (!takeNumber(1, MAX_DESKS)) {
                return false;
            }
            int desks = number;
            if (!takeNumber(1, MAX_PACE)) {
                return false;
            }
            int pace = number;
            if (!takeNumber(1, MAX_LIMIT) || !takeSemicolon()) {
                return false;
            }
            offices.add(officeName, desks, pace, number);
            return true;
        }

        boolean readPersons() {
            for (int i = 0; i <= MAX_PERSONS && reader.isWord("person"); i++) {
                if (!readPerson()) {
                    return false;
                }
            }
            return true;
        }

        boolean readPerson() {
            if (state.persons.count >= MAX_PERSONS) {
                return fail(TOO_MANY);
            }
            reader.advance();
            if (reader.name() != NONE && state.persons.named(reader.name()) != NONE) {
                return fail(TAKEN);
            }
            if (!takeName() || !takeSemicolon()) {
                return false;
            }
            state.persons.add(name);
            return true;
        }

        boolean readDeeds() {
            // A deed has bytes, so there are fewer deeds than bytes.
            boolean good = true;
            for (int i = 0; i < MAX_TEXT && good && reader.kind != Reader.END; i++) {
                if (reader.isWord("join")) {
                    good = readJoin();
                } else if (reader.isWord("pass")) {
                    good = readPass();
                } else if (reader.isWord("claim")) {
                    good = readClaim();
                } else if (reader.isWord("witness")) {
                    good = readWitness();
                } else {
                    good = fail(MISPLACED);
                }
            }
            return good;
        }

        boolean readJoin() {
            reader.advance();
            if (!takePerson()) {
                return false;
            }
            int person = found;
            if (!takeOffice() || !seeSemicolon()) {
                return false;
            }
            if (!state.canQueue(person, found)) {
                return fail(IMPOSSIBLE);
            }
            state.queueUp(person, found);
            return takeSemicolon();
        }

        boolean readPass() {
            reader.advance();
            if (!takeNumber(1, MAX_PASS) || !seeSemicolon()) {
                return false;
            }
            if (!state.canPass(number)) {
                return fail(IMPOSSIBLE);
            }
            state.passHours(number);
            return takeSemicolon();
        }

        boolean readClaim() {
            reader.advance();
            if (!takeLatestTicket() || !seeSemicolon()) {
                return false;
            }
            if (!state.canClaim(found)) {
                return fail(IMPOSSIBLE);
            }
            state.makeClaim(found);
            return takeSemicolon();
        }

        boolean readWitness() {
            reader.advance();
            if (!takePerson()) {
                return false;
            }
            int person = found;
            if (!takeLatestTicket() || !seeSemicolon()) {
                return false;
            }
            if (state.reasonAgainst(found, person) != 0) {
                return fail(IMPOSSIBLE);
            }
            state.addWitness(found, person);
            return takeSemicolon();
        }

        boolean takeWord(String word) {
            if (!reader.isWord(word)) {
                return fail(MISPLACED);
            }
            reader.advance();
            return true;
        }

        boolean takeNumber(int lowest, int highest) {
            if (reader.kind != Reader.NUMBER) {
                return fail(MISPLACED);
            }
            if (reader.number < lowest || reader.number > highest) {
                return fail(OUT_OF_RANGE);
            }
            number = reader.number;
            reader.advance();
            return true;
        }

        boolean takeName() {
            name = reader.name();
            if (name == NONE) {
                return fail(MISPLACED);
            }
            reader.advance();
            return true;
        }

        boolean takePerson() {
            found = state.persons.named(reader.name());
            if (reader.name() != NONE && found == NONE) {
                return fail(UNKNOWN);
            }
            return takeName();
        }

        boolean takeOffice() {
            found = state.offices.named(reader.name());
            if (reader.name() != NONE && found == NONE) {
                return fail(UNKNOWN);
            }
            return takeName();
        }

        /** Finds the latest ticket of the person whose name stands there. */
        boolean takeLatestTicket() {
            int person = state.persons.named(reader.name());
            found = person == NONE ? NONE : state.tickets.latestOf(person);
            if (reader.name() != NONE && found == NONE) {
                return fail(UNKNOWN);
            }
            return takeName();
        }

        boolean seeSemicolon() {
            return reader.kind == Reader.SEMICOLON || fail(MISPLACED);
        }

        boolean takeSemicolon() {
            if (!seeSemicolon()) {
                return false;
            }
            reader.advance();
            return true;
        }

        boolean fail(int code) {
            wrongCode = code;
            wrongPosition = reader.start;
            return false;
        }
    }
}
