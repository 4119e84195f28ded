/** Parts of texts for load(); persons and offices are named a, b, c and so on. */
final class Texts {
    private Texts() {
    }

    static String name(int number) {
        return String.valueOf((char) ('a' + number));
    }

    /** Offices with the same DESKS, PACE and LIMIT. */
    static String offices(int many, String numbers) {
        StringBuilder text = new StringBuilder();
        for (int office = 0; office < many; office++) {
            text.append("office ").append(name(office)).append(' ').append(numbers).append(';');
        }
        return text.toString();
    }

    static String persons(int many) {
        StringBuilder text = new StringBuilder();
        for (int person = 0; person < many; person++) {
            text.append("person ").append(name(person)).append(';');
        }
        return text.toString();
    }

    /** The first persons join an office. */
    static String joins(int many, String office) {
        StringBuilder text = new StringBuilder();
        for (int person = 0; person < many; person++) {
            text.append("join ").append(name(person)).append(' ').append(office).append(';');
        }
        return text.toString();
    }

    /** The first persons claim their latest tickets. */
    static String claims(int many) {
        StringBuilder text = new StringBuilder();
        for (int person = 0; person < many; person++) {
            text.append("claim ").append(name(person)).append(';');
        }
        return text.toString();
    }

    static String pass(int hours) {
        StringBuilder text = new StringBuilder();
        int left = hours;
        while (left > 0) {
            int next = Math.min(99, left);
            text.append("pass ").append(next).append(';');
            left -= next;
        }
        return text.toString();
    }

    /** Sixty tickets of ten persons at six offices, all waiting at the time 0. */
    static String sixtyTickets() {
        StringBuilder text = new StringBuilder("bureau 0 0 1 20 1 0;" + offices(6, "4 6 20") + persons(11));
        for (int office = 0; office < 6; office++) {
            text.append(joins(10, name(office)));
        }
        return text.toString();
    }

    /** Two hundred tokens, at the time 24: 6, 12, 18 and 20 for four persons each, but 16 for person 14 and 0 for 15. */
    static String twoHundredTokens() {
        return "bureau 0 0 1 20 1 0;" + offices(1, "4 6 20") + persons(16) + joins(16, "a") + pass(24) + claims(16);
    }
}
