/** The boundaries that promises 32 and 33 name. */
public final class OutputEdgesTest {
    private static final Class<?> BOUNDS = IndexOutOfBoundsException.class;

    private OutputEdgesTest() {
    }

    public static void main(String[] args) {
        ranges();
        joinedInDigits();
        names();
        blanks();
        closed();
        outputByte();
        outputStays();
        Check.end("OutputEdgesTest");
    }

    private static void ranges() {
        Check.promise(32);
        String six = "bureau 0 0 1 20 1 9;" + Texts.offices(6, "1 1 1") + "person x;join x f;";
        Check.range("write()", BOUNDS, 0, 5, office -> Check.loaded(six).write(office));
        Check.promise(33);
        Check.range("outputByte()", BOUNDS, 0, 2, place -> {
            WaitingBureau bureau = Check.loaded(six);
            bureau.write(5);
            return bureau.outputByte(place);
        });
    }

    private static void wrote(WaitingBureau bureau, int office, String due) {
        Check.promise(32);
        int length = bureau.write(office);
        Check.same("length of write(" + office + ")", due.length(), length);
        Check.same("write(" + office + ")", due, Check.output(bureau, length));
        Check.promise(33);
        Check.outOfBounds("outputByte(" + length + ")", () -> bureau.outputByte(length));
        Check.outOfBounds("outputByte(-1)", () -> bureau.outputByte(-1));
    }

    private static void joinedInDigits() {
        for (int time : new int[] {0, 1, 9, 10, 11, 90, 99, 100, 101, 110, 900, 909, 990, 998, 999}) {
            WaitingBureau bureau = Check.loaded("bureau 0 0 1 20 1 9;office a 1 1 1;person x;" + Texts.pass(time));
            bureau.join(0, 0);
            wrote(bureau, 0, "x@" + time);
        }
    }

    private static void names() {
        WaitingBureau bureau = Check.loaded("bureau 0 0 1 20 1 9;office a 1 1 9;person a;person z;person az;person zzzzzz;"
                + "person aaaaaa;person bcdefg;join z a;join a a;join az a;join zzzzzz a;join aaaaaa a;join bcdefg a;");
        wrote(bureau, 0, "z@0 a@0 az@0 zzzzzz@0 aaaaaa@0 bcdefg@0");
        Check.put(bureau, "hijklm");
        bureau.addPerson();
        bureau.leave(0);
        bureau.join(6, 0);
        wrote(bureau, 0, "a@0 az@0 zzzzzz@0 aaaaaa@0 bcdefg@0 hijklm@0");
    }

    private static void blanks() {
        StringBuilder due = new StringBuilder();
        for (int many = 0; many <= 16; many++) {
            WaitingBureau bureau = Check.loaded("bureau 0 0 1 20 1 9;office a 1 1 16;" + Texts.persons(16)
                    + Texts.joins(many, "a"));
            wrote(bureau, 0, due.toString());
            due.append(many == 0 ? "" : " ").append(Texts.name(many)).append("@0");
        }
    }

    private static void closed() {
        WaitingBureau bureau = Check.loaded("bureau 0 0 1 20 1 9;office a 1 6 9;office b 1 6 9;person x;person y;"
                + "pass 1;join y b;join x a;pass 1;join y a;");
        bureau.merge(0, 1);
        wrote(bureau, 0, "!");
        wrote(bureau, 1, "y@1 x@1");
        bureau.reopen(0);
        wrote(bureau, 0, "");
        bureau.join(0, 0);
        wrote(bureau, 0, "x@2");
    }

    private static void outputByte() {
        Check.promise(33);
        WaitingBureau bureau = new WaitingBureau();
        Check.outOfBounds("outputByte(0) without output", () -> bureau.outputByte(0));
        bureau.write(0);
        Check.outOfBounds("outputByte(0) of an empty output", () -> bureau.outputByte(0));
        bureau.join(0, 0);
        bureau.join(1, 0);
        bureau.write(0);
        int[] due = {120, 64, 48, 32, 121, 64, 48};
        for (int place = 0; place < 7; place++) {
            Check.same("outputByte(" + place + ")", due[place], bureau.outputByte(place));
        }
        Check.beyond("outputByte() of 7 bytes", BOUNDS, 0, 6, place -> bureau.outputByte(place));
        bureau.leave(1);
        bureau.write(0);
        Check.outOfBounds("outputByte(3) of a shorter output", () -> bureau.outputByte(3));
        bureau.write(1);
        Check.outOfBounds("outputByte(0) of an empty output again", () -> bureau.outputByte(0));
    }

    /** The output is no part of a state, and a call that throws leaves it. */
    private static void outputStays() {
        Check.promise(33);
        WaitingBureau bureau = new WaitingBureau();
        bureau.save(0);
        bureau.join(1, 0);
        bureau.write(0);
        bureau.pass(9);
        Check.outOfBounds("write(2)", () -> bureau.write(2));
        Check.outOfBounds("write(-1)", () -> bureau.write(-1));
        Check.put(bureau, "wrong");
        Check.badArgument("load()", bureau::load);
        Check.same("output after all that", "y@0", Check.output(bureau, 3));
        bureau.undo();
        bureau.undo();
        bureau.restore(0);
        Check.same("output after undo() and restore()", "y@0", Check.output(bureau, 3));
        Check.outOfBounds("outputByte(3)", () -> bureau.outputByte(3));
    }
}
