import java.util.ArrayList;
import java.util.Comparator;
import java.util.HashMap;
import java.util.HashSet;
import java.util.LinkedList;
import java.util.List;
import java.util.Map;
import java.util.NoSuchElementException;
import java.util.Set;
import java.util.TreeMap;
import java.util.regex.Matcher;
import java.util.regex.Pattern;

/**
 * The document in its plainest form, to compare with: everything is looked up in lists and logs,
 * and what is foretold is really done with a copy.
 */
final class PlainBureau {
    static final int[] LOW = {0, 0, 1, 1, 1, 0};
    static final int[] HIGH = {9, 3, 9, 20, 99, 99999};

    static final class Office {
        String name;
        int desks;
        int pace;
        int limit;
        boolean open = true;
        int served;
        List<Integer> queue = new ArrayList<>();
    }

    static final class Person {
        String name;
        int purse;
    }

    static final class Ticket {
        int person;
        int office;
        int joined;
        Integer ended;
        int state;
        boolean claimed;
        boolean proven;
        List<Integer> witnesses = new ArrayList<>();
    }

    static final class Token {
        int owner;
        int ticket;
        int hour;
        int state;
        int week;
    }

    /** Somebody was a witness of somebody's ticket in a week. */
    static final class Testimony {
        int witness;
        int claimant;
        int week;
    }

    static final class World {
        int[] set = new int[5];
        int fund;
        int time;
        List<Office> offices = new ArrayList<>();
        List<Person> persons = new ArrayList<>();
        List<Ticket> tickets = new ArrayList<>();
        List<Token> tokens = new ArrayList<>();
        List<Integer> offered = new LinkedList<>();
        List<Testimony> testimonies = new ArrayList<>();

        World copy() {
            World to = new World();
            to.set = set.clone();
            to.fund = fund;
            to.time = time;
            for (Office o : offices) {
                Office n = new Office();
                n.name = o.name;
                n.desks = o.desks;
                n.pace = o.pace;
                n.limit = o.limit;
                n.open = o.open;
                n.served = o.served;
                n.queue.addAll(o.queue);
                to.offices.add(n);
            }
            for (Person p : persons) {
                Person n = new Person();
                n.name = p.name;
                n.purse = p.purse;
                to.persons.add(n);
            }
            for (Ticket t : tickets) {
                Ticket n = new Ticket();
                n.person = t.person;
                n.office = t.office;
                n.joined = t.joined;
                n.ended = t.ended;
                n.state = t.state;
                n.claimed = t.claimed;
                n.proven = t.proven;
                n.witnesses.addAll(t.witnesses);
                to.tickets.add(n);
            }
            for (Token t : tokens) {
                Token n = new Token();
                n.owner = t.owner;
                n.ticket = t.ticket;
                n.hour = t.hour;
                n.state = t.state;
                n.week = t.week;
                to.tokens.add(n);
            }
            to.offered.addAll(offered);
            to.testimonies.addAll(testimonies);
            return to;
        }

        int week() {
            return time / 20;
        }

        int last(Ticket t) {
            return t.ended == null ? time : t.ended;
        }

        Set<Integer> lost(Ticket t) {
            Set<Integer> hours = new java.util.TreeSet<>();
            for (int h = 0; h < 1300; h++) {
                if (h >= t.joined + set[0] && h < last(t)) {
                    hours.add(h);
                }
            }
            return hours;
        }

        Set<Integer> lostByServed(int person) {
            Set<Integer> hours = new HashSet<>();
            for (Ticket t : tickets) {
                if (t.person == person && t.state == 1) {
                    hours.addAll(lost(t));
                }
            }
            return hours;
        }

        boolean paid(int person, int hour) {
            return tokens.stream().anyMatch(k -> k.hour == hour && tickets.get(k.ticket).person == person);
        }

        int madeThisWeek(int person) {
            return (int) tokens.stream()
                    .filter(k -> k.week == week() && tickets.get(k.ticket).person == person).count();
        }

        int witnessedThisWeek(int person) {
            return (int) testimonies.stream().filter(x -> x.week == week() && x.witness == person).count();
        }

        int make(int ticket) {
            Ticket t = tickets.get(ticket);
            int many = 0;
            for (int h : lost(t)) {
                if (!paid(t.person, h) && madeThisWeek(t.person) < set[3] && tokens.size() < 200) {
                    Token k = new Token();
                    k.owner = t.person;
                    k.ticket = ticket;
                    k.hour = h;
                    k.week = week();
                    tokens.add(k);
                    many++;
                }
            }
            return many;
        }

        int settle() {
            int many = 0;
            while (!offered.isEmpty() && fund >= set[4]) {
                Token k = tokens.get(offered.remove(0));
                k.state = 2;
                fund -= set[4];
                persons.get(k.owner).purse += set[4];
                many++;
            }
            return many;
        }

        int hour() {
            int served = 0;
            time++;
            for (Office o : offices) {
                if (!o.open || time % o.pace != 0) {
                    continue;
                }
                for (int d = 0; d < o.desks && !o.queue.isEmpty(); d++) {
                    Ticket t = tickets.get(o.queue.remove(0));
                    t.state = 1;
                    t.ended = time;
                    o.served++;
                    served++;
                }
            }
            if (time % 20 == 0) {
                for (int i = 0; i < tickets.size(); i++) {
                    if (tickets.get(i).proven) {
                        make(i);
                    }
                }
            }
            settle();
            return served;
        }

        boolean waitsAt(int person, int office) {
            return offices.get(office).queue.stream().anyMatch(t -> tickets.get(t).person == person);
        }

        boolean canJoin(int person, int office) {
            Office o = offices.get(office);
            return tickets.size() < 60 && o.open && o.queue.size() < o.limit && !waitsAt(person, office);
        }

        int join(int person, int office) {
            Ticket t = new Ticket();
            t.person = person;
            t.office = office;
            t.joined = time;
            tickets.add(t);
            offices.get(office).queue.add(tickets.size() - 1);
            return tickets.size() - 1;
        }

        boolean canClaim(int ticket) {
            return tickets.get(ticket).state == 1 && !tickets.get(ticket).claimed;
        }

        int claim(int ticket) {
            tickets.get(ticket).claimed = true;
            if (set[1] == 0) {
                tickets.get(ticket).proven = true;
                return make(ticket);
            }
            return 0;
        }

        int common(int ticket, int person) {
            Ticket t = tickets.get(ticket);
            int most = 0;
            for (Ticket o : tickets) {
                if (o == t || o.person != person || o.office != t.office) {
                    continue;
                }
                int hours = 0;
                for (int h = 0; h < 1300; h++) {
                    if (h >= o.joined && h < last(o) && h >= t.joined && h < last(t)) {
                        hours++;
                    }
                }
                most = Math.max(most, hours);
            }
            return most;
        }

        int whyNot(int ticket, int person) {
            Ticket t = tickets.get(ticket);
            boolean[] reasons = {
                !t.claimed,
                t.proven,
                t.person == person,
                t.witnesses.contains(person),
                common(ticket, person) < set[2],
                witnessedThisWeek(person) >= 3,
                testimonies.stream().anyMatch(
                        x -> x.week == week() && x.witness == t.person && x.claimant == person),
            };
            for (int i = 0; i < 7; i++) {
                if (reasons[i]) {
                    return i + 1;
                }
            }
            return 0;
        }

        int witness(int ticket, int person) {
            Ticket t = tickets.get(ticket);
            t.witnesses.add(person);
            Testimony x = new Testimony();
            x.witness = person;
            x.claimant = t.person;
            x.week = week();
            testimonies.add(x);
            if (t.witnesses.size() >= set[1]) {
                t.proven = true;
                return make(ticket);
            }
            return 0;
        }

        void merge(int office, int other) {
            List<Integer> all = new ArrayList<>(offices.get(other).queue);
            all.addAll(offices.get(office).queue);
            all.sort(Comparator.comparingInt(t -> tickets.get(t).joined));
            offices.get(office).queue.clear();
            offices.get(other).queue.clear();
            offices.get(office).open = false;
            Set<Integer> seen = new HashSet<>();
            for (int t : all) {
                tickets.get(t).office = other;
                if (seen.add(tickets.get(t).person)) {
                    offices.get(other).queue.add(t);
                } else {
                    tickets.get(t).state = 2;
                    tickets.get(t).ended = time;
                }
            }
        }

        List<Integer> held(int person) {
            List<Integer> found = new ArrayList<>();
            for (int k = 0; k < tokens.size(); k++) {
                if (tokens.get(k).owner == person && tokens.get(k).state == 0) {
                    found.add(k);
                }
            }
            return found;
        }

        int indexOfOffice(String name) {
            for (int i = 0; i < offices.size(); i++) {
                if (offices.get(i).name.equals(name)) {
                    return i;
                }
            }
            return -1;
        }

        int indexOfPerson(String name) {
            for (int i = 0; i < persons.size(); i++) {
                if (persons.get(i).name.equals(name)) {
                    return i;
                }
            }
            return -1;
        }

        int latest(int person) {
            int found = -1;
            for (int i = 0; i < tickets.size(); i++) {
                if (tickets.get(i).person == person) {
                    found = i;
                }
            }
            return found;
        }
    }

    /** An error of a text. */
    static final class Wrong extends Exception {
        private static final long serialVersionUID = 1L;
        final int code;
        final int position;

        Wrong(int code, int position) {
            this.code = code;
            this.position = position;
        }
    }

    /** Reads a text that is split by a regular expression beforehand. */
    static final class Text {
        final List<String> words = new ArrayList<>();
        final List<Integer> starts = new ArrayList<>();
        int at;
        World world = new World();

        Text(String text) {
            Matcher m = Pattern.compile("[a-z]+|[0-9]+|[^ \n]", Pattern.DOTALL).matcher(text);
            while (m.find()) {
                words.add(m.group());
                starts.add(m.start());
            }
            words.add("");
            starts.add(text.length());
        }

        String next() {
            return words.get(at);
        }

        Wrong wrong(int code) {
            return new Wrong(code, starts.get(at));
        }

        void expect(String word) throws Wrong {
            if (!next().equals(word)) {
                throw wrong(1);
            }
            at++;
        }

        void semicolon() throws Wrong {
            expect(";");
        }

        int number(int low, int high) throws Wrong {
            if (!next().matches("[0-9]{1,5}")) {
                throw wrong(1);
            }
            int value = Integer.parseInt(next());
            if (value < low || value > high) {
                throw wrong(2);
            }
            at++;
            return value;
        }

        String name() throws Wrong {
            if (!next().matches("[a-z]{1,6}")) {
                throw wrong(1);
            }
            return words.get(at++);
        }

        int person() throws Wrong {
            int found = world.indexOfPerson(name());
            if (found < 0) {
                at--;
                throw wrong(4);
            }
            return found;
        }

        int ticketOfPerson() throws Wrong {
            int found = world.latest(person());
            if (found < 0) {
                at--;
                throw wrong(4);
            }
            return found;
        }

        World read() throws Wrong {
            expect("bureau");
            for (int i = 0; i < 5; i++) {
                world.set[i] = number(LOW[i], HIGH[i]);
            }
            world.fund = number(LOW[5], HIGH[5]);
            semicolon();
            do {
                office();
            } while (next().equals("office"));
            while (next().equals("person")) {
                newPerson();
            }
            while (at < words.size() - 1) {
                deed();
            }
            return world;
        }

        void office() throws Wrong {
            if (next().equals("office") && world.offices.size() == 6) {
                throw wrong(5);
            }
            expect("office");
            Office o = new Office();
            o.name = name();
            if (world.indexOfOffice(o.name) >= 0) {
                at--;
                throw wrong(3);
            }
            o.desks = number(1, 4);
            o.pace = number(1, 6);
            o.limit = number(1, 20);
            semicolon();
            world.offices.add(o);
        }

        void newPerson() throws Wrong {
            if (world.persons.size() == 16) {
                throw wrong(5);
            }
            expect("person");
            Person p = new Person();
            p.name = name();
            if (world.indexOfPerson(p.name) >= 0) {
                at--;
                throw wrong(3);
            }
            semicolon();
            world.persons.add(p);
        }

        void doable(boolean yes) throws Wrong {
            if (next().equals(";") && !yes) {
                throw wrong(6);
            }
        }

        void deed() throws Wrong {
            String deed = next();
            if (!Set.of("join", "pass", "claim", "witness").contains(deed)) {
                throw wrong(1);
            }
            at++;
            if (deed.equals("join")) {
                int person = person();
                int office = world.indexOfOffice(name());
                if (office < 0) {
                    at--;
                    throw wrong(4);
                }
                doable(world.canJoin(person, office));
                semicolon();
                world.join(person, office);
            } else if (deed.equals("pass")) {
                int hours = number(1, 99);
                doable(world.time + hours <= 999);
                semicolon();
                for (int i = 0; i < hours; i++) {
                    world.hour();
                }
            } else if (deed.equals("claim")) {
                int ticket = ticketOfPerson();
                doable(world.canClaim(ticket));
                semicolon();
                world.claim(ticket);
            } else {
                int person = person();
                int ticket = ticketOfPerson();
                doable(world.whyNot(ticket, person) == 0);
                semicolon();
                world.witness(ticket, person);
            }
        }
    }

    World w;
    String buffer = "";
    String output = "";
    int errorCode = 0;
    int errorPosition = -1;
    LinkedList<World> undone = new LinkedList<>();
    World[] slots = new World[2];

    PlainBureau() {
        try {
            w = new Text("bureau 1 1 2 5 3 20;office a 1 2 6;office b 1 1 4;person x;person y;person z;").read();
        } catch (Wrong e) {
            throw new AssertionError(e);
        }
    }

    static void bounds(boolean good) {
        if (!good) {
            throw new IndexOutOfBoundsException();
        }
    }

    static void argument(boolean good) {
        if (!good) {
            throw new IllegalArgumentException();
        }
    }

    static void state(boolean good) {
        if (!good) {
            throw new IllegalStateException();
        }
    }

    static void element(boolean good) {
        if (!good) {
            throw new NoSuchElementException();
        }
    }

    void office(int o) {
        bounds(o >= 0 && o < w.offices.size());
    }

    void person(int p) {
        bounds(p >= 0 && p < w.persons.size());
    }

    void ticket(int t) {
        bounds(t >= 0 && t < w.tickets.size());
    }

    static boolean in(int value, int low, int high) {
        return value >= low && value <= high;
    }

    void changed() {
        undone.addLast(w.copy());
        if (undone.size() > 8) {
            undone.removeFirst();
        }
    }

    int append(int a, int b, int c, int d, int e) {
        state(buffer.length() + 20 <= 1000);
        StringBuilder more = new StringBuilder(buffer);
        for (int x : new int[] {a, b, c, d, e}) {
            more.append((char) (x >>> 24)).append((char) (x >>> 16 & 255));
            more.append((char) (x >>> 8 & 255)).append((char) (x & 255));
        }
        buffer = more.toString();
        return buffer.length();
    }

    int truncate(int length) {
        bounds(in(length, 0, buffer.length()));
        buffer = buffer.substring(0, length);
        return length;
    }

    int load() {
        String text = buffer;
        buffer = "";
        try {
            w = new Text(text).read();
        } catch (Wrong e) {
            errorCode = e.code;
            errorPosition = e.position;
            throw new IllegalArgumentException();
        }
        errorCode = 0;
        errorPosition = -1;
        output = "";
        undone.clear();
        slots = new World[2];
        return w.persons.size();
    }

    int find(boolean isOffice) {
        String name = buffer;
        buffer = "";
        int found = isOffice ? w.indexOfOffice(name) : w.indexOfPerson(name);
        element(found >= 0);
        return found;
    }

    int count(int what) {
        argument(in(what, 0, 12));
        int toNextWeek = 1;
        while ((w.time + toNextWeek) % 20 != 0) {
            toNextWeek++;
        }
        long[] all = {
            w.offices.size(), w.persons.size(), w.tickets.size(), w.time, toNextWeek,
            w.tickets.stream().filter(t -> t.state == 0).count(),
            w.tickets.stream().filter(t -> t.claimed && !t.proven).count(),
            w.tickets.stream().filter(t -> t.proven).count(),
            w.tokens.size(), w.offered.size(),
            w.tokens.stream().filter(k -> k.state == 2).count(),
            w.fund, undone.size(),
        };
        return (int) all[what];
    }

    int setting(int what) {
        argument(in(what, 0, 4));
        return w.set[what];
    }

    int office(int office, int what) {
        office(office);
        argument(in(what, 0, 5));
        Office o = w.offices.get(office);
        return new int[] {o.desks, o.pace, o.limit, o.open ? 1 : 0, o.queue.size(), o.served}[what];
    }

    int queued(int office, int place) {
        office(office);
        bounds(in(place, 0, w.offices.get(office).queue.size() - 1));
        return w.offices.get(office).queue.get(place);
    }

    int person(int person, int what) {
        person(person);
        argument(in(what, 0, 9));
        Set<Integer> unpaid = new HashSet<>(w.lostByServed(person));
        unpaid.removeIf(h -> w.paid(person, h));
        long[] all = {
            w.persons.get(person).purse,
            w.tickets.stream().filter(t -> t.person == person).count(),
            w.tickets.stream().filter(t -> t.person == person && t.state == 0).count(),
            w.tokens.stream().filter(k -> k.owner == person && k.state == 0).count(),
            w.tokens.stream().filter(k -> k.owner == person && k.state == 1).count(),
            w.tokens.stream().filter(k -> k.owner == person && k.state == 2).count(),
            w.tokens.stream().filter(k -> w.tickets.get(k.ticket).person == person).count(),
            w.madeThisWeek(person), w.witnessedThisWeek(person), unpaid.size(),
        };
        return (int) all[what];
    }

    int ticket(int ticket, int what) {
        ticket(ticket);
        argument(in(what, 0, 10));
        Ticket t = w.tickets.get(ticket);
        return new int[] {
            t.person, t.office, t.joined, t.ended == null ? -1 : t.ended, t.state, t.claimed ? 1 : 0, t.proven ? 1 : 0,
            t.witnesses.size(), w.lost(t).size(), (int) w.tokens.stream().filter(k -> k.ticket == ticket).count(),
            w.offices.get(t.office).queue.indexOf(ticket),
        }[what];
    }

    int token(int token, int what) {
        bounds(in(token, 0, w.tokens.size() - 1));
        argument(in(what, 0, 4));
        Token k = w.tokens.get(token);
        return new int[] {k.owner, k.ticket, k.hour, k.state, w.offered.indexOf(token)}[what];
    }

    boolean isPaidFor(int person, int hour) {
        person(person);
        argument(in(hour, 0, 999));
        return w.paid(person, hour);
    }

    int whyNot(int ticket, int person) {
        ticket(ticket);
        person(person);
        return w.whyNot(ticket, person);
    }

    int common(int ticket, int person) {
        ticket(ticket);
        person(person);
        return w.common(ticket, person);
    }

    int witnessFor(int ticket, int place) {
        ticket(ticket);
        List<Integer> can = new ArrayList<>();
        for (int p = 0; p < w.persons.size(); p++) {
            if (w.whyNot(ticket, p) == 0) {
                can.add(p);
            }
        }
        element(in(place, 0, can.size() - 1));
        return can.get(place);
    }

    boolean isWitness(int ticket, int person) {
        ticket(ticket);
        person(person);
        return w.tickets.get(ticket).witnesses.contains(person);
    }

    int worth(int ticket) {
        ticket(ticket);
        return w.tickets.get(ticket).state == 1 ? w.copy().make(ticket) : 0;
    }

    int debt() {
        int cost = 0;
        for (Token k : w.tokens) {
            cost += k.state == 2 ? 0 : w.set[4];
        }
        return cost;
    }

    double meanWait() {
        double sum = 0;
        double many = 0;
        for (Ticket t : w.tickets) {
            if (t.state == 1) {
                sum += t.ended - t.joined;
                many++;
            }
        }
        return many == 0 ? 0.0 : sum / many;
    }

    double repaid() {
        double hours = 0;
        for (int p = 0; p < w.persons.size(); p++) {
            hours += w.lostByServed(p).size();
        }
        return hours == 0 ? 0.0 : w.tokens.size() / hours;
    }

    int unluckiest() {
        TreeMap<Integer, Integer> byHours = new TreeMap<>();
        for (int p = w.persons.size() - 1; p >= 0; p--) {
            byHours.put(w.lostByServed(p).size(), p);
        }
        return byHours.isEmpty() || byHours.lastKey() == 0 ? -1 : byHours.get(byHours.lastKey());
    }

    int servedIn(int ticket) {
        ticket(ticket);
        element(w.tickets.get(ticket).state != 2);
        World future = w.copy();
        int hours = 0;
        while (future.tickets.get(ticket).state != 1) {
            future.hour();
            hours++;
            element(hours <= 200);
        }
        return hours;
    }

    int queueIn(int office, int hours) {
        office(office);
        argument(in(hours, 0, 200));
        World future = w.copy();
        for (int i = 0; i < hours; i++) {
            future.hour();
        }
        return future.offices.get(office).queue.size();
    }

    int tokensIn(int hours) {
        argument(in(hours, 0, 200));
        World future = w.copy();
        for (int i = 0; i < hours; i++) {
            future.hour();
        }
        return future.tokens.size();
    }

    int servedIf(int office) {
        office(office);
        element(w.offices.get(office).open);
        World future = w.copy();
        Person guest = new Person();
        guest.name = "";
        future.persons.add(guest);
        int ticket = future.join(future.persons.size() - 1, office);
        int hours = 0;
        while (future.tickets.get(ticket).state != 1) {
            future.hour();
            hours++;
            element(hours <= 200);
        }
        return hours;
    }

    int bestOffice() {
        Map<Integer, Integer> found = new HashMap<>();
        for (int o = w.offices.size() - 1; o >= 0; o--) {
            int office = o;
            Object answer = Check.outcome(() -> servedIf(office));
            if (answer instanceof Integer) {
                found.put((Integer) answer, o);
            }
        }
        element(!found.isEmpty());
        return found.get(found.keySet().stream().min(Comparator.naturalOrder()).get());
    }

    int longestIfMerged(int office, int other) {
        office(office);
        office(other);
        state(office != other && w.offices.get(office).open && w.offices.get(other).open);
        World future = w.copy();
        future.merge(office, other);
        List<Ticket> waiting = new ArrayList<>();
        for (Ticket t : future.tickets) {
            if (t.state == 0) {
                waiting.add(t);
            }
        }
        for (int i = 0; i < 200; i++) {
            future.hour();
        }
        int longest = 0;
        for (Ticket t : waiting) {
            element(t.state == 1);
            longest = Math.max(longest, t.ended - t.joined);
        }
        return longest;
    }

    int write(int office) {
        office(office);
        List<String> parts = new ArrayList<>();
        for (int t : w.offices.get(office).queue) {
            parts.add(w.persons.get(w.tickets.get(t).person).name + "@" + w.tickets.get(t).joined);
        }
        output = String.join(" ", parts) + (w.offices.get(office).open ? "" : "!");
        return output.length();
    }

    int outputByte(int place) {
        bounds(in(place, 0, output.length() - 1));
        return output.charAt(place);
    }

    int join(int person, int office) {
        person(person);
        office(office);
        state(w.canJoin(person, office));
        changed();
        return w.join(person, office);
    }

    int leave(int ticket) {
        ticket(ticket);
        state(w.tickets.get(ticket).state == 0);
        changed();
        Ticket t = w.tickets.get(ticket);
        t.state = 2;
        t.ended = w.time;
        w.offices.get(t.office).queue.remove((Integer) ticket);
        return w.time - t.joined;
    }

    int pass(int hours) {
        argument(in(hours, 1, 99));
        state(w.time + hours <= 999);
        changed();
        int served = 0;
        for (int i = 0; i < hours; i++) {
            served += w.hour();
        }
        return served;
    }

    int claim(int ticket) {
        ticket(ticket);
        state(w.canClaim(ticket));
        changed();
        return w.claim(ticket);
    }

    int witness(int ticket, int person) {
        ticket(ticket);
        person(person);
        state(w.whyNot(ticket, person) == 0);
        changed();
        return w.witness(ticket, person);
    }

    int give(int person, int other, int many) {
        person(person);
        person(other);
        argument(in(many, 1, 200));
        state(person != other && w.held(person).size() >= many);
        changed();
        for (int k : w.held(person).subList(0, many)) {
            w.tokens.get(k).owner = other;
        }
        return w.held(other).size();
    }

    int offer(int person, int many) {
        person(person);
        argument(in(many, 1, 200));
        state(w.held(person).size() >= many);
        changed();
        for (int k : w.held(person).subList(0, many)) {
            w.tokens.get(k).state = 1;
            w.offered.add(k);
        }
        return w.settle();
    }

    int deposit(int amount) {
        argument(in(amount, 1, 9999));
        state(w.fund + amount <= 99999);
        changed();
        w.fund += amount;
        w.settle();
        return w.fund;
    }

    int merge(int office, int other) {
        office(office);
        office(other);
        state(office != other && w.offices.get(office).open && w.offices.get(other).open);
        changed();
        w.merge(office, other);
        return w.offices.get(other).queue.size();
    }

    int reopen(int office) {
        office(office);
        state(!w.offices.get(office).open);
        changed();
        w.offices.get(office).open = true;
        return (int) w.offices.stream().filter(o -> o.open).count();
    }

    int addPerson() {
        String name = buffer;
        buffer = "";
        argument(name.matches("[a-z]{1,6}") && !name.endsWith("\n"));
        state(w.persons.size() < 16 && w.indexOfPerson(name) < 0);
        changed();
        Person p = new Person();
        p.name = name;
        w.persons.add(p);
        return w.persons.size() - 1;
    }

    int set(int what, int value) {
        argument(in(what, 0, 4) && in(value, LOW[what], HIGH[what]));
        changed();
        int before = w.set[what];
        w.set[what] = value;
        return before;
    }

    int undo() {
        state(!undone.isEmpty());
        w = undone.removeLast();
        return undone.size();
    }

    int save(int slot) {
        bounds(in(slot, 0, 1));
        slots[slot] = w.copy();
        return 0;
    }

    int restore(int slot) {
        bounds(in(slot, 0, 1));
        element(slots[slot] != null);
        w = slots[slot].copy();
        undone.clear();
        return 0;
    }
}
