import java.util.List;
import java.util.Random;
import java.util.TreeMap;

/** Compares every answer of random runs of 512 calls with those of the plain reading of the document. */
public final class RandomRunsTest {
    private static final int RUNS = 1000;
    private static final int CALLS = 512;

    private final Random random;
    private final RandomTexts texts;
    private final String label;
    // A busy run has few offices, many persons, and claims and witnesses that mostly succeed.
    private final boolean busy;
    private final WaitingBureau real = new WaitingBureau();
    private final PlainBureau plain = new PlainBureau();
    private int left = CALLS;
    private static final TreeMap<String, Integer> SEEN = new TreeMap<>();

    private RandomRunsTest(int seed) {
        random = new Random(seed);
        texts = new RandomTexts(random);
        label = "run " + seed;
        busy = seed % 2 == 0;
    }

    public static void main(String[] args) {
        int first = args.length > 0 ? Integer.parseInt(args[0]) : 0;
        int runs = args.length > 1 ? Integer.parseInt(args[1]) : RUNS;
        for (int seed = first; seed < first + runs; seed++) {
            new RandomRunsTest(seed).run();
        }
        // What the runs never reached, they did not test.
        for (String reached : new String[] {"60 tickets", "200 tokens", "16 persons", "6 offices", "time 999",
            "reason 1", "reason 2", "reason 3", "reason 4", "reason 5", "reason 6", "reason 7", "8 changes",
            "loaded", "a twin left"}) {
            Check.same("whether the runs reached " + reached, true, SEEN.containsKey(reached));
        }
        if (args.length > 0) {
            System.out.println(SEEN);
        }
        Check.end("RandomRunsTest");
    }

    private void saw(String what) {
        SEEN.merge(what, 1, Integer::sum);
    }

    private int below(int bound) {
        return random.nextInt(bound);
    }

    /** Mostly a number from 0 to bound - 1, at times one beside it or far off. */
    private int about(int bound) {
        int luck = below(60);
        if (luck == 0) {
            return -1;
        }
        if (luck == 1) {
            return bound;
        }
        if (luck == 2) {
            int[] far = {Integer.MIN_VALUE, Integer.MAX_VALUE, -2, 1000, 1 << 16, random.nextInt()};
            return far[below(far.length)];
        }
        return bound <= 0 ? 0 : below(bound);
    }

    private void both(String call, Check.Call ours, Check.Call theirs) {
        if (left == 0) {
            return;
        }
        left--;
        Object due = Check.outcome(theirs);
        Check.same(label + ": " + call, due, Check.outcome(ours));
        saw(call.substring(0, call.indexOf('(')) + (String.valueOf(due).startsWith("throws") ? " throws" : ""));
    }

    private void run() {
        if (busy) {
            loadText(busyText());
        } else if (below(4) != 0) {
            loadText(texts.next(false));
        }
        while (left > 120) {
            if (below(6) == 0) {
                report();
            } else if (busy && below(20) == 0) {
                burst();
            } else {
                change();
            }
            note();
        }
        reportCounts();
        while (left > 0) {
            report();
        }
    }

    private void note() {
        PlainBureau.World w = plain.w;
        saw(w.tickets.size() + " tickets");
        saw(w.tokens.size() + " tokens");
        saw(w.persons.size() + " persons");
        saw(w.offices.size() + " offices");
        saw("time " + w.time);
        saw(plain.undone.size() + " changes");
    }

    // ---- texts

    private void loadText(String text) {
        put(text);
        both("load() of " + text, real::load, plain::load);
        both("errorCode()", real::errorCode, () -> plain.errorCode);
        both("errorPosition()", real::errorPosition, () -> plain.errorPosition);
        saw(plain.errorCode == 0 ? "loaded" : "error " + plain.errorCode);
    }

    private void put(String text) {
        int calls = 2 + (text.length() + 19) / 20;
        if (left < calls) {
            left = 0;
            return;
        }
        left -= calls;
        Check.put(real, text);
        plain.buffer = text;
    }

    private String busyText() {
        StringBuilder text = new StringBuilder("bureau 0 ");
        text.append(1 + below(3)).append(" 1 ").append(1 + below(20)).append(" 2 ").append(below(99)).append(";");
        int offices = 1 + below(2);
        for (int i = 0; i < offices; i++) {
            text.append("office ").append(RandomTexts.name(i)).append(" ").append(1 + below(4)).append(" ").append(2 + below(5))
                    .append(" 20;");
        }
        int persons = 4 + below(13);
        for (int i = 0; i < persons; i++) {
            text.append("person ").append(RandomTexts.name(i)).append(";");
        }
        return text.toString();
    }

    // ---- changes

    private void change() {
        PlainBureau.World w = plain.w;
        int a = about(w.persons.size());
        int b = about(w.persons.size());
        int o = about(w.offices.size());
        int q = about(w.offices.size());
        int t = about(w.tickets.size());
        int luck = below(100);
        if (luck < 30) {
            both("join(" + a + ", " + o + ")", () -> real.join(a, o), () -> plain.join(a, o));
        } else if (luck < 33) {
            both("leave(" + t + ")", () -> real.leave(t), () -> plain.leave(t));
        } else if (luck < 48) {
            int rest = 999 - w.time;
            int usual = 1 + below(label.endsWith("5") ? 40 : 8);
            int hours = rest < 99 && below(3) == 0 ? rest + below(2) : below(20) == 0 ? about(100) : usual;
            both("pass(" + hours + ")", () -> real.pass(hours), () -> plain.pass(hours));
        } else if (luck < 59) {
            int served = busy ? someTicket(t, false) : t;
            both("claim(" + served + ")", () -> real.claim(served), () -> plain.claim(served));
        } else if (luck < 74) {
            witness(t, a);
        } else if (luck < 77) {
            int many = below(4) == 0 ? about(201) : 1 + below(6);
            both("give(" + a + ", " + b + ", " + many + ")", () -> real.give(a, b, many), () -> plain.give(a, b, many));
        } else if (luck < 81) {
            int many = below(4) == 0 ? about(201) : 1 + below(6);
            both("offer(" + a + ", " + many + ")", () -> real.offer(a, many), () -> plain.offer(a, many));
        } else if (luck < 84) {
            int amount = below(4) == 0 ? about(10000) : 1 + below(60);
            both("deposit(" + amount + ")", () -> real.deposit(amount), () -> plain.deposit(amount));
        } else if (luck < 86) {
            long left = w.tickets.stream().filter(x -> x.state == 2).count();
            both("merge(" + o + ", " + q + ")", () -> real.merge(o, q), () -> plain.merge(o, q));
            if (w.tickets.stream().filter(x -> x.state == 2).count() > left) {
                saw("a twin left");
            }
        } else if (luck < 90) {
            both("reopen(" + o + ")", () -> real.reopen(o), () -> plain.reopen(o));
        } else if (luck < 93) {
            int what = about(5);
            int value = about(what >= 0 && what < 5 ? PlainBureau.HIGH[what] + 1 : 5);
            both("set(" + what + ", " + value + ")", () -> real.set(what, value), () -> plain.set(what, value));
        } else if (luck < 95) {
            both("undo()", real::undo, plain::undo);
        } else {
            rareChange();
        }
    }

    /** Many persons wait together and then ask for each other's witness. */
    private void burst() {
        int office = below(plain.w.offices.size());
        int many = below(plain.w.persons.size() + 1);
        for (int i = 0; i < many; i++) {
            int person = i;
            both("join(" + i + ", " + office + ")", () -> real.join(person, office), () -> plain.join(person, office));
        }
        int hours = 1 + below(8);
        both("pass(" + hours + ")", () -> real.pass(hours), () -> plain.pass(hours));
        for (int i = 0; i < many; i++) {
            int ticket = someTicket(below(60), false);
            both("claim(" + ticket + ")", () -> real.claim(ticket), () -> plain.claim(ticket));
        }
        for (int i = 0; i < many; i++) {
            witness(below(60), below(2) == 0 ? 0 : below(plain.w.persons.size()));
        }
    }

    private void witness(int t, int a) {
        int ticket = below(8) != 0 ? someTicket(t, true) : t;
        int person = a;
        int persons = plain.w.persons.size();
        for (int i = 0; i < persons && below(12) != 0; i++) {
            int other = (i + Math.floorMod(a, persons)) % persons;
            Object why = Check.outcome(() -> plain.whyNot(ticket, other));
            if (why.equals(0) || why.equals(6) || why.equals(7)) {
                person = other;
                break;
            }
        }
        int someone = person;
        Object why = Check.outcome(() -> plain.whyNot(ticket, someone));
        saw("reason " + why);
        both("whyNot(" + ticket + ", " + someone + ")", () -> real.whyNot(ticket, someone), () -> why);
        both("witness(" + ticket + ", " + someone + ")", () -> real.witness(ticket, someone),
                () -> plain.witness(ticket, someone));
    }

    /** A ticket that waits for witnesses, or for a claim, if there is one. */
    private int someTicket(int otherwise, boolean isClaimed) {
        List<PlainBureau.Ticket> all = plain.w.tickets;
        for (int i = 0; i < all.size(); i++) {
            int at = (i + Math.floorMod(otherwise, all.size())) % all.size();
            PlainBureau.Ticket ticket = all.get(at);
            if (ticket.state == 1 && ticket.claimed == isClaimed && !ticket.proven) {
                return at;
            }
        }
        return otherwise;
    }

    private void rareChange() {
        int slot = about(2);
        int luck = below(busy ? 34 : 40);
        if (luck < 14) {
            both("save(" + slot + ")", () -> saveReal(slot), () -> plain.save(slot));
        } else if (luck < 20) {
            both("restore(" + slot + ")", () -> restoreReal(slot), () -> plain.restore(slot));
        } else if (luck < 26) {
            String[] odd = {"", "abcdefg", "A", "a ", " a", "a;", "\u00e1", "1"};
            put(below(3) == 0 ? odd[below(odd.length)] : RandomTexts.name(below(18)));
            both("addPerson()", real::addPerson, plain::addPerson);
        } else if (luck < 32) {
            put(below(9) == 0 ? "none" : RandomTexts.name(below(18)));
            boolean isOffice = below(2) == 0;
            both("find(" + isOffice + ")", () -> real.find(isOffice), () -> plain.find(isOffice));
        } else if (luck < 36) {
            int[] x = {random.nextInt(), random.nextInt(), random.nextInt(), random.nextInt(), random.nextInt()};
            both("append(..)", () -> real.append(x[0], x[1], x[2], x[3], x[4]),
                    () -> plain.append(x[0], x[1], x[2], x[3], x[4]));
            int length = about(plain.buffer.length() + 1);
            both("truncate(" + length + ")", () -> real.truncate(length), () -> plain.truncate(length));
            if (below(2) == 0) {
                both("load()", real::load, plain::load);
            }
        } else {
            loadText(texts.next(luck < 39));
        }
    }

    private int saveReal(int slot) {
        real.save(slot);
        return 0;
    }

    private int restoreReal(int slot) {
        real.restore(slot);
        return 0;
    }

    // ---- reports

    private void report() {
        PlainBureau.World w = plain.w;
        int a = about(w.persons.size());
        int o = about(w.offices.size());
        int q = about(w.offices.size());
        int t = about(w.tickets.size());
        int what = about(11);
        int hour = about(1000);
        int hours = below(3) == 0 ? about(201) : below(30);
        int place = about(8);
        int token = about(w.tokens.size());
        switch (below(15)) {
            case 0: both("office(" + o + ", " + what + ")", () -> real.office(o, what), () -> plain.office(o, what)); break;
            case 1: both("queued(" + o + ", " + place + ")", () -> real.queued(o, place), () -> plain.queued(o, place)); break;
            case 2: both("person(" + a + ", " + what + ")", () -> real.person(a, what), () -> plain.person(a, what)); break;
            case 3: both("ticket(" + t + ", " + what + ")", () -> real.ticket(t, what), () -> plain.ticket(t, what)); break;
            case 4: both("token(" + token + ", " + what + ")", () -> real.token(token, what), () -> plain.token(token, what)); break;
            case 5: both("isPaidFor(" + a + ", " + hour + ")", () -> real.isPaidFor(a, hour), () -> plain.isPaidFor(a, hour)); break;
            case 6: both("witnessFor(" + t + ", " + place + ")", () -> real.witnessFor(t, place), () -> plain.witnessFor(t, place)); break;
            case 7: both("queueIn(" + o + ", " + hours + ")", () -> real.queueIn(o, hours), () -> plain.queueIn(o, hours)); break;
            case 8: both("tokensIn(" + hours + ")", () -> real.tokensIn(hours), () -> plain.tokensIn(hours)); break;
            case 9: both("longestIfMerged(" + o + ", " + q + ")", () -> real.longestIfMerged(o, q), () -> plain.longestIfMerged(o, q)); break;
            case 10:
                both("write(" + o + ")", () -> real.write(o), () -> plain.write(o));
                break;
            case 11:
                both("outputByte(" + place + ")", () -> real.outputByte(place), () -> plain.outputByte(place));
                break;
            case 12: both("count(" + what + ")", () -> real.count(what), () -> plain.count(what)); break;
            case 13: both("setting(" + what + ")", () -> real.setting(what), () -> plain.setting(what)); break;
            default:
                both("common(" + t + ", " + a + ")", () -> real.common(t, a), () -> plain.common(t, a));
                both("isWitness(" + t + ", " + a + ")", () -> real.isWitness(t, a), () -> plain.isWitness(t, a));
                both("servedIn(" + t + ")", () -> real.servedIn(t), () -> plain.servedIn(t));
                both("servedIf(" + o + ")", () -> real.servedIf(o), () -> plain.servedIf(o));
                both("worth(" + t + ")", () -> real.worth(t), () -> plain.worth(t));
                break;
        }
    }

    private void reportCounts() {
        for (int i = 0; i <= 12; i++) {
            int what = i;
            both("count(" + i + ")", () -> real.count(what), () -> plain.count(what));
        }
        both("debt()", real::debt, plain::debt);
        both("meanWait()", real::meanWait, plain::meanWait);
        both("repaid()", real::repaid, plain::repaid);
        both("unluckiest()", real::unluckiest, plain::unluckiest);
        both("gap()", real::gap, () -> 0);
        both("bestOffice()", real::bestOffice, plain::bestOffice);
        both("errorCode()", real::errorCode, () -> plain.errorCode);
        both("errorPosition()", real::errorPosition, () -> plain.errorPosition);
    }
}
