import java.util.ArrayList;
import java.util.List;
import java.util.Random;

/** Makes texts for load(), right ones and faulty ones. */
final class RandomTexts {
    private static final String[] NAMES = {"a", "b", "office", "person", "join", "zz", "bureau", "pass", "claim",
        "zzzzzz", "aa", "q", "abcdef", "x", "y", "z", "aaaaaa", "m"};

    private final Random random;

    RandomTexts(Random random) {
        this.random = random;
    }

    static String name(int number) {
        return NAMES[Math.floorMod(number, NAMES.length)];
    }

    String next(boolean faulty) {
        boolean tooMany = faulty && below(10) == 0;
        List<String> parts = new ArrayList<>(List.of("bureau"));
        boolean easy = below(2) == 0;
        int[] head = {below(easy ? 2 : 10), below(easy ? 2 : 4), 1 + below(easy ? 2 : 9), 1 + below(20),
            1 + below(easy ? 9 : 99), below(3) == 0 ? 99999 - below(99) : below(200)};
        for (int value : head) {
            parts.add(below(9) == 0 && value < 10000 ? "0" + value : "" + value);
        }
        parts.add(";");
        int offices = 1 + below(6);
        for (int i = 0; i < (tooMany && easy ? 7 : offices); i++) {
            parts.addAll(List.of("office", name(i), "" + (1 + below(4)), "" + (1 + below(6)), "" + (1 + below(20)), ";"));
        }
        int persons = below(3) == 0 ? 16 : below(17);
        for (int i = 0; i < (tooMany ? 17 : persons); i++) {
            parts.addAll(List.of("person", name(17 - i), ";"));
        }
        if (persons > 0 && !tooMany) {
            addDeeds(parts, persons, offices, faulty);
        }
        if (faulty && below(4) != 0) {
            spoil(parts);
        }
        return joined(parts, faulty);
    }

    private int below(int bound) {
        return random.nextInt(bound);
    }

    private void addDeeds(List<String> parts, int persons, int offices, boolean faulty) {
        int deeds = below(80);
        for (int i = 0; i < deeds; i++) {
            List<String> more = new ArrayList<>(parts);
            more.addAll(deed(persons, offices));
            boolean careless = faulty && below(100) == 0;
            if (careless || isGood(String.join(" ", more))) {
                parts.clear();
                parts.addAll(more);
            }
        }
    }

    private static boolean isGood(String text) {
        try {
            new PlainBureau.Text(text).read();
            return true;
        } catch (PlainBureau.Wrong e) {
            return false;
        }
    }

    private List<String> deed(int persons, int offices) {
        String person = name(17 - below(persons));
        switch (below(6)) {
            case 0: case 1:
                return List.of("join", person, name(below(offices)), ";");
            case 2:
                return List.of("pass", "" + (1 + below(below(4) == 0 ? 99 : 9)), ";");
            case 3:
                return List.of("claim", person, ";");
            default:
                return List.of("witness", person, name(17 - below(persons)), ";");
        }
    }

    private void spoil(List<String> parts) {
        String[] bad = {";", "0", "7", "100", "99999", "100000", "000000", "office", "person", "join", "abcdefg",
            "witness", "z\u00e9", "A", "\t", "\u0000", "q", "21", "10", "-", "\u00ff", "pass", "claim", "m"};
        int at = below(parts.size());
        String other = below(2) == 0 ? bad[below(bad.length)] : parts.get(below(parts.size()));
        switch (below(3)) {
            case 0:
                parts.remove(at);
                break;
            case 1:
                parts.set(at, other);
                break;
            default:
                parts.add(at, other);
                break;
        }
    }

    private String joined(List<String> parts, boolean faulty) {
        StringBuilder text = new StringBuilder(below(9) == 0 ? " \n" : "");
        for (int i = 0; i < parts.size(); i++) {
            String part = parts.get(i);
            boolean mayTouch = i == 0 || part.equals(";") || parts.get(i - 1).equals(";")
                    || Character.isDigit(part.charAt(0)) != Character.isDigit(parts.get(i - 1).charAt(0));
            text.append(mayTouch && below(9) != 0 ? "" : gap()).append(part);
        }
        text.append(below(9) == 0 ? "\n " : "");
        int length = Math.min(1000, text.length());
        if (text.length() > 1000) {
            length = text.lastIndexOf(";", 999) + 1;
        }
        if (faulty && below(6) == 0) {
            length = below(length + 1);
        }
        return text.substring(0, length);
    }

    private String gap() {
        String[] gaps = {" ", " ", " ", " ", "\n", "  ", " \n "};
        return gaps[below(gaps.length)];
    }
}
