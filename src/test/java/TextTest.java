/** Promises 1 to 7: a new object, the text buffer, loading, errors, finding. */
public final class TextTest {
    private static final String HEAD = "bureau 1 1 2 5 3 20;";
    private static final String OFFICE = "office a 1 2 6;";
    private static final String START = HEAD + OFFICE + "person x;";

    private TextTest() {
    }

    public static void main(String[] args) {
        newObject();
        append();
        truncate();
        load();
        loadBeginsAnew();
        failedLoadChangesNothing();
        headErrors();
        officeErrors();
        personErrors();
        deedErrors();
        impossibleDeeds();
        tokensOfTheText();
        find();
        Check.end("TextTest");
    }

    private static void newObject() {
        Check.promise(1);
        WaitingBureau fresh = new WaitingBureau();
        WaitingBureau loaded = Check.loaded(
                "bureau 1 1 2 5 3 20;office a 1 2 6;office b 1 1 4;person x;person y;person z;");
        int[] counts = {2, 3, 0, 0, 20, 0, 0, 0, 0, 0, 0, 20, 0};
        for (int what = 0; what < counts.length; what++) {
            Check.same("count(" + what + ") of a new object", counts[what], fresh.count(what));
            Check.same("count(" + what + ") of the loaded one", counts[what], loaded.count(what));
        }
        int[] settings = {1, 1, 2, 5, 3};
        for (int what = 0; what < settings.length; what++) {
            Check.same("setting(" + what + ") of a new object", settings[what], fresh.setting(what));
        }
        int[][] offices = {{1, 2, 6, 1, 0, 0}, {1, 1, 4, 1, 0, 0}};
        for (int office = 0; office < 2; office++) {
            for (int what = 0; what < 6; what++) {
                Check.same("office(" + office + ", " + what + ")", offices[office][what], fresh.office(office, what));
            }
        }
        Check.same("errorCode() of a new object", 0, fresh.errorCode());
        Check.same("errorPosition() of a new object", WaitingBureau.NONE, fresh.errorPosition());
        Check.outOfBounds("truncate(1) of an empty buffer", () -> fresh.truncate(1));
        Check.outOfBounds("outputByte(0) of a new object", () -> fresh.outputByte(0));
        Check.noElement("restore(0) of a new object", () -> fresh.restore(0));
        String names = "abxyz";
        for (int i = 0; i < 5; i++) {
            Check.put(fresh, names.substring(i, i + 1));
            Check.same("find of " + names.charAt(i), i < 2 ? i : i - 2, fresh.find(i < 2));
        }
    }

    private static void append() {
        Check.promise(2);
        WaitingBureau bureau = new WaitingBureau();
        for (int length = 20; length <= 1000; length += 20) {
            Check.same("append", length, bureau.append(0x20202020, 0x20202020, 0x20202020, 0x20202020, 0x20202020));
        }
        Check.badState("append to a full buffer", () -> bureau.append(0, 0, 0, 0, 0));
        Check.same("truncate(1000)", 1000, bureau.truncate(1000));
        bureau.truncate(981);
        Check.badState("append to 981 bytes", () -> bureau.append(0, 0, 0, 0, 0));
        Check.same("truncate(981)", 981, bureau.truncate(981));
        bureau.truncate(980);
        Check.same("append to 980 bytes", 1000, bureau.append(0, 0, 0, 0, 0));
        bureau.truncate(0);
        // "bure" "au0a" ...: the order of the bytes shows in where the first error is.
        bureau.append(0x62757265, 0x61753020, 0x30203120, 0x31203120, 0x39ff8000);
        Check.badArgument("load() of bytes above 127", bureau::load);
        Check.same("errorCode()", 1, bureau.errorCode());
        Check.same("errorPosition()", 17, bureau.errorPosition());
    }

    private static void truncate() {
        Check.promise(3);
        WaitingBureau bureau = new WaitingBureau();
        Check.same("truncate(0)", 0, bureau.truncate(0));
        Check.outOfBounds("truncate(-1)", () -> bureau.truncate(-1));
        bureau.append(0, 0, 0, 0, 0);
        Check.outOfBounds("truncate(21)", () -> bureau.truncate(21));
        Check.outOfBounds("truncate(least)", () -> bureau.truncate(Integer.MIN_VALUE));
        Check.same("truncate(20)", 20, bureau.truncate(20));
        Check.same("truncate(7)", 7, bureau.truncate(7));
        Check.outOfBounds("truncate(8)", () -> bureau.truncate(8));
        Check.same("append", 27, bureau.append(0, 0, 0, 0, 0));
    }

    private static void load() {
        Check.promise(4);
        WaitingBureau bureau = new WaitingBureau();
        Check.put(bureau, "bureau 9 3 9 20 99 99999;office a 4 6 20;office bcdefg 1 1 1;");
        Check.same("load() without persons", 0, bureau.load());
        Check.same("count(0)", 2, bureau.count(0));
        Check.same("FUND", 99999, bureau.count(11));
        Check.same("LIMIT", 20, bureau.office(0, 2));
        Check.outOfBounds("truncate(1) after load()", () -> bureau.truncate(1));
        Check.put(bureau, "\n bureau 00000 0 1\n1 1 0 ; office office 1 1 2;person person;person office;person join;"
                + "join person office;join join office;pass 2;claim person;pass 00099;claim join;join join office;\n");
        Check.same("load() with deeds", 3, bureau.load());
        Check.same("count(3)", 101, bureau.count(3));
        Check.same("tickets", 3, bureau.count(2));
        Check.same("proven tickets", 2, bureau.count(7));
        Check.same("tokens", 2, bureau.count(8));
        Check.same("changes that can be undone", 0, bureau.count(12));
        Check.badState("undo() after load()", bureau::undo);
    }

    private static void loadBeginsAnew() {
        Check.promise(4);
        WaitingBureau bureau = Check.loaded(START + "join x a;pass 3;");
        bureau.save(0);
        bureau.pass(1);
        bureau.join(0, 0);
        bureau.write(0);
        Check.badArgument("load() of nothing", bureau::load);
        Check.same("errorCode()", 1, bureau.errorCode());
        Check.same("errorPosition()", 0, bureau.errorPosition());
        Check.put(bureau, START);
        Check.same("load()", 1, bureau.load());
        Check.same("errorCode()", 0, bureau.errorCode());
        Check.same("errorPosition()", WaitingBureau.NONE, bureau.errorPosition());
        Check.same("tickets", 0, bureau.count(2));
        Check.same("time", 0, bureau.count(3));
        Check.same("waiting tickets of a", 0, bureau.office(0, 4));
        Check.badState("undo()", bureau::undo);
        Check.noElement("restore(0)", () -> bureau.restore(0));
        Check.outOfBounds("outputByte(0)", () -> bureau.outputByte(0));
    }

    private static void failedLoadChangesNothing() {
        Check.promise(4);
        WaitingBureau bureau = Check.loaded(START + "join x a;pass 3;");
        bureau.save(1);
        bureau.pass(1);
        bureau.join(0, 0);
        bureau.write(0);
        Check.put(bureau, HEAD + "office q 4 4 4;person u;person v;join u q;pass 5;claim v;");
        Check.badArgument("load()", bureau::load);
        Check.same("errorCode()", 4, bureau.errorCode());
        Check.same("errorPosition()", 75, bureau.errorPosition());
        Check.outOfBounds("truncate(1)", () -> bureau.truncate(1));
        Check.same("time", 4, bureau.count(3));
        Check.same("persons", 1, bureau.count(1));
        Check.same("tickets", 2, bureau.count(2));
        Check.same("changes", 2, bureau.count(12));
        Check.same("output", (int) '4', bureau.outputByte(2));
        Check.same("undo()", 1, bureau.undo());
        bureau.restore(1);
        Check.same("time after restore(1)", 3, bureau.count(3));
    }

    /** Loads a text with an error whose first wrong byte is behind a part that is good. */
    private static void error(int code, String good, String rest) {
        WaitingBureau bureau = new WaitingBureau();
        Check.put(bureau, good + rest);
        Check.badArgument("load() of " + good + rest, bureau::load);
        Check.same("errorCode() of " + good + rest, code, bureau.errorCode());
        Check.same("errorPosition() of " + good + rest, good.length(), bureau.errorPosition());
        Check.same("persons after " + good + rest, 3, bureau.count(1));
    }

    private static void headErrors() {
        Check.promise(4);
        error(1, "", "");
        error(1, "  \n ", "");
        error(1, "", "office");
        error(1, "", "bureaux 1");
        error(1, "", "Bureau 1");
        error(1, "", "zureau 1");
        error(1, "", "bureaz 1");
        error(1, "bureau", "");
        error(1, "bureau ", "x");
        error(1, "bureau ", "; 1");
        error(2, "bureau ", "10 1");
        error(2, "bureau 9 ", "4");
        error(2, "bureau 9 3 ", "0");
        error(2, "bureau 9 3 ", "10");
        error(2, "bureau 9 3 9 ", "0");
        error(2, "bureau 9 3 9 ", "21");
        error(2, "bureau 9 3 9 20 ", "0");
        error(2, "bureau 9 3 9 20 ", "100");
        error(1, "bureau 9 3 9 20 99 ", "100000;");
        error(1, "bureau 9 3 9 20 99 ", "000000;");
        error(1, "bureau 9 3 9 20 99 ", "-1;");
        error(1, "bureau 9 3 9 20 99 99999 ", "1");
        error(1, "bureau 9 3 9 20 99 99999\n", "");
        error(1, HEAD, "");
        error(1, HEAD, "person x;");
        error(1, HEAD, "officea 1 1 1;");
        error(1, "bureau 9 3 9 20 99 99999 ", "office a 1 1 1;");
    }

    private static void officeErrors() {
        Check.promise(4);
        error(1, HEAD + "office ", "1");
        error(1, HEAD + "office ", ";");
        error(1, HEAD + "office ", "abcdefg 1 1 1;");
        error(1, HEAD + "office ", "Abc");
        error(1, HEAD + "office abcdef", "");
        error(2, HEAD + "office a ", "0");
        error(2, HEAD + "office a ", "5");
        error(2, HEAD + "office a 4 ", "0");
        error(2, HEAD + "office a 4 ", "7");
        error(2, HEAD + "office a 4 6 ", "0");
        error(2, HEAD + "office a 4 6 ", "21");
        error(1, HEAD + "office a 4 6 20 ", "20");
        error(1, HEAD + "office a 4 6 20 ", "office b 1 1 1;");
        error(3, HEAD + OFFICE + "office ", "a 0");
        error(4, HEAD + OFFICE + "office b 1 1 1;person x;join x ", "c");
        StringBuilder six = new StringBuilder(HEAD);
        for (char name = 'a'; name < 'g'; name++) {
            six.append("office ").append(name).append(" 1 1 1;");
        }
        Check.same("six offices", 6, Check.loaded(six.toString()).count(0));
        error(5, six.toString(), "office");
        error(5, six.toString(), "office a 9 9 9");
        error(1, six + "person x;", "office");
    }

    private static void personErrors() {
        Check.promise(4);
        error(1, HEAD + OFFICE + "person ", "");
        error(1, HEAD + OFFICE + "person ", "1");
        error(1, HEAD + OFFICE + "person ", "witness;");
        error(1, HEAD + OFFICE + "person x ", "y");
        error(1, HEAD + OFFICE + "person x ", "person y;");
        error(3, START + "person ", "x;");
        error(1, START, "office b 1 1 1;");
        error(1, START, "persons");
        StringBuilder sixteen = new StringBuilder(HEAD + OFFICE);
        for (char name = 'a'; name < 'q'; name++) {
            sixteen.append("person ").append(name).append(";");
        }
        Check.same("sixteen persons", 16, Check.loaded(sixteen.toString()).count(1));
        error(5, sixteen.toString(), "person a");
        error(5, sixteen.toString(), "person");
        error(1, sixteen + "pass 1;", "person");
    }

    private static void deedErrors() {
        Check.promise(4);
        error(1, START, "leave x;");
        error(1, START, ";");
        error(1, START, "1");
        error(1, START, "witnes x x;");
        error(1, START, "zoin x a;");
        error(1, START, "jo");
        error(1, START + "pass 1;", "person y;");
        error(1, START + "pass 1;", "office b 1 1 1;");
        error(1, START + "join ", ";");
        error(1, START + "join ", "abcdefg");
        error(4, START + "join ", "a x;");
        error(4, START + "join x ", "x;");
        error(1, START + "join x ", "1;");
        error(1, START + "join x a ", "a");
        error(1, START + "pass ", "x");
        error(2, START + "pass ", "0");
        error(2, START + "pass ", "100");
        error(1, START + "pass ", "000099;");
        error(1, START + "pass 99 ", "pass");
        error(4, START + "claim ", "a;");
        error(4, START + "claim ", "x;");
        error(1, START + "claim ", "12;");
        error(1, START + "join x a;pass 2;claim x", "");
        error(4, START + "witness ", "a x;");
        error(4, START + "person y;join x a;witness y ", "y;");
        error(4, START + "person y;witness x ", "z;");
        error(1, START + "person y;join x a;witness y x ", "x;");
        error(1, START + "person y;join x a;witness y ", "\u00e9");
    }

    private static void impossibleDeeds() {
        Check.promise(4);
        error(6, START + "join x a;join x a ", ";");
        error(6, HEAD + "office a 1 2 1;person x;person y;join x a;join y a", ";pass");
        StringBuilder sixty = new StringBuilder(HEAD);
        for (char name = 'a'; name < 'g'; name++) {
            sixty.append("office ").append(name).append(" 1 6 20;");
        }
        for (char name = 'a'; name < 'l'; name++) {
            sixty.append("person ").append(name).append(";");
        }
        for (int i = 0; i < 60; i++) {
            sixty.append("join ").append((char) ('a' + i % 11)).append(" ").append((char) ('a' + i / 11)).append(";");
        }
        Check.same("tickets of a text", 60, Check.loaded(sixty.toString()).count(2));
        error(6, sixty + "join k f", ";");
        StringBuilder late = new StringBuilder(START);
        for (int i = 0; i < 10; i++) {
            late.append("pass 99;");
        }
        Check.same("the time at last", 999, Check.loaded(late + "pass 9;").count(3));
        error(6, late + "pass 10", ";");
        error(6, START + "join x a;pass 1;claim x", ";");
        error(6, START + "join x a;pass 2;claim x;claim x", ";");
        String two = HEAD + OFFICE + "person x;person y;join x a;join y a;pass 4;";
        error(6, two + "witness x y", ";");
        error(6, two + "claim y;witness y y", ";");
        error(6, two + "claim y;witness x y;witness x y", ";");
        Check.same("tokens of a good text", 3, Check.loaded(two + "claim y;witness x y;").count(8));
    }

    private static void tokensOfTheText() {
        Check.promise(4);
        WaitingBureau bureau = new WaitingBureau();
        Check.put(bureau, "bureau0 0 1 1 1 0;office a1 1 1;person x;person claim;join x a;pass1;claim x;join claim a;");
        Check.same("load() with touching tokens", 2, bureau.load());
        Check.same("tickets", 2, bureau.count(2));
        error(1, START, "joinx a;");
        error(1, "bureau 1 ", "1234567890123;");
        error(1, "bureau ", "\t1");
        error(1, "bureau ", "\r1");
        error(1, "bureau 1 1", "\u00001");
        error(1, "bureau 1 1", "{");
        error(1, "bureau 1 1", "`");
        error(1, "bureau 1 1", ":");
        error(1, "bureau 1 1", "/");
        error(2, "bureau 0009 00003 ", "00010 100000");
    }

    private static void find() {
        Check.promise(7);
        WaitingBureau bureau = Check.loaded(HEAD + "office a 1 1 1;office pass 1 1 1;person b;person pass;person ab;");
        for (Object[] due : new Object[][] {{"a", 0, -1}, {"pass", 1, 1}, {"b", -1, 0}, {"ab", -1, 2}, {"", -1, -1},
            {"ba", -1, -1}, {" a", -1, -1}, {"a ", -1, -1}, {"abcdefg", -1, -1}, {"A", -1, -1}, {"a\u00e9", -1, -1}}) {
            for (int kind = 1; kind <= 2; kind++) {
                boolean isOffice = kind == 1;
                String call = "find(" + isOffice + ") of " + due[0];
                Check.put(bureau, (String) due[0]);
                if ((Integer) due[kind] < 0) {
                    Check.noElement(call, () -> bureau.find(isOffice));
                } else {
                    Check.same(call, due[kind], bureau.find(isOffice));
                }
                Check.outOfBounds("truncate(1) after " + call, () -> bureau.truncate(1));
            }
        }
    }
}
