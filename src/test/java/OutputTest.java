/** Promises 32 and 33: the output. */
public final class OutputTest {
    private OutputTest() {
    }

    public static void main(String[] args) {
        write();
        longest();
        outputByte();
        outputIsNoState();
        Check.end("OutputTest");
    }

    private static void wrote(WaitingBureau bureau, int office, String due) {
        int length = bureau.write(office);
        Check.same("length of write(" + office + ")", due.length(), length);
        Check.same("write(" + office + ")", due, Check.output(bureau, length));
        Check.outOfBounds("outputByte(" + length + ")", () -> bureau.outputByte(length));
    }

    private static void write() {
        Check.promise(32);
        WaitingBureau bureau = Check.loaded("bureau 1 1 2 5 3 0;office a 1 6 6;office b 1 6 6;person abcdef;person z;"
                + "person person;join z a;pass 5;join person a;pass 99;join abcdef a;join z b;");
        wrote(bureau, 0, "abcdef@104");
        wrote(bureau, 1, "z@104");
        bureau.join(1, 0);
        bureau.join(2, 0);
        wrote(bureau, 0, "abcdef@104 z@104 person@104");
        bureau.merge(0, 1);
        wrote(bureau, 0, "!");
        wrote(bureau, 1, "z@104 abcdef@104 person@104");
        bureau.reopen(0);
        wrote(bureau, 0, "");
        Check.outOfBounds("write(2)", () -> bureau.write(2));
        Check.outOfBounds("write(-1)", () -> bureau.write(-1));
        WaitingBureau early = new WaitingBureau();
        early.join(2, 0);
        wrote(early, 0, "z@0");
        early.pass(1);
        early.join(0, 0);
        wrote(early, 0, "z@0 x@1");
        early.pass(9);
        early.join(0, 0);
        wrote(early, 0, "x@10");
    }

    private static void longest() {
        Check.promise(32);
        StringBuilder text = new StringBuilder("bureau 1 1 2 5 3 0;office a 1 6 20;");
        StringBuilder due = new StringBuilder();
        for (char name = 'a'; name < 'q'; name++) {
            text.append("person aaaaa").append(name).append(";");
            due.append(due.length() == 0 ? "" : " ").append("aaaaa").append(name).append("@996");
        }
        text.append("pass 99;".repeat(10)).append("pass 6;");
        WaitingBureau bureau = Check.loaded(text.toString());
        for (int person = 0; person < 16; person++) {
            bureau.join(person, 0);
        }
        wrote(bureau, 0, due.toString());
    }

    private static void outputByte() {
        Check.promise(33);
        WaitingBureau bureau = new WaitingBureau();
        Check.outOfBounds("outputByte(0) without output", () -> bureau.outputByte(0));
        bureau.join(1, 0);
        bureau.write(0);
        int[] due = {121, 64, 48};
        for (int place = 0; place < 3; place++) {
            Check.same("outputByte(" + place + ")", due[place], bureau.outputByte(place));
        }
        Check.outOfBounds("outputByte(3)", () -> bureau.outputByte(3));
        Check.outOfBounds("outputByte(-1)", () -> bureau.outputByte(-1));
    }

    private static void outputIsNoState() {
        Check.promise(33);
        WaitingBureau bureau = new WaitingBureau();
        bureau.save(0);
        bureau.join(1, 0);
        bureau.write(0);
        Check.same("changes", 1, bureau.count(12));
        bureau.undo();
        Check.same("output after undo()", "y@0", Check.output(bureau, 3));
        bureau.restore(0);
        Check.same("output after restore(0)", "y@0", Check.output(bureau, 3));
        Check.outOfBounds("write(9)", () -> bureau.write(9));
        Check.same("output after a write() that throws", "y@0", Check.output(bureau, 3));
        bureau.write(0);
        Check.outOfBounds("outputByte(0) of nothing", () -> bureau.outputByte(0));
    }
}
