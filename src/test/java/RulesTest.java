import java.lang.management.ManagementFactory;
import java.lang.reflect.Field;
import java.lang.reflect.Method;
import java.lang.reflect.Modifier;
import java.util.Set;
import java.util.TreeSet;

/** The face of the class, its constants, and how much a run of calls makes. */
public final class RulesTest {
    private static final String FACE = "append(int,int,int,int,int)int truncate(int)int load()int errorCode()int "
            + "errorPosition()int find(boolean)int count(int)int setting(int)int office(int,int)int queued(int,int)int "
            + "person(int,int)int ticket(int,int)int token(int,int)int isPaidFor(int,int)boolean whyNot(int,int)int "
            + "common(int,int)int witnessFor(int,int)int isWitness(int,int)boolean worth(int)int debt()int "
            + "meanWait()double repaid()double unluckiest()int gap()int servedIn(int)int queueIn(int,int)int "
            + "tokensIn(int)int servedIf(int)int bestOffice()int longestIfMerged(int,int)int write(int)int "
            + "outputByte(int)int join(int,int)int leave(int)int pass(int)int claim(int)int witness(int,int)int "
            + "give(int,int,int)int offer(int,int)int deposit(int)int merge(int,int)int reopen(int)int addPerson()int "
            + "set(int,int)int undo()int save(int)void restore(int)void";

    private RulesTest() {
    }

    public static void main(String[] args) throws ReflectiveOperationException {
        face();
        constants();
        classesInside();
        room();
        Check.end("RulesTest");
    }

    private static void face() {
        Set<String> due = new TreeSet<>(Set.of(FACE.split(" ")));
        Set<String> got = new TreeSet<>();
        for (Method method : WaitingBureau.class.getDeclaredMethods()) {
            if (Modifier.isPublic(method.getModifiers())) {
                got.add(signature(method));
            } else {
                Check.same("whether " + method + " is private", true, Modifier.isPrivate(method.getModifiers()));
            }
        }
        Check.same("the public methods", due, got);
        Check.same("whether the class is final", true, Modifier.isFinal(WaitingBureau.class.getModifiers()));
        Check.same("the constructors", 1, WaitingBureau.class.getDeclaredConstructors().length);
    }

    private static String signature(Method method) {
        StringBuilder text = new StringBuilder(method.getName()).append("(");
        for (Class<?> type : method.getParameterTypes()) {
            text.append(text.charAt(text.length() - 1) == '(' ? "" : ",").append(type);
        }
        return text.append(")").append(method.getReturnType()).toString();
    }

    private static void constants() throws ReflectiveOperationException {
        Set<String> due = Set.of("NONE=-1", "WAITING=0", "SERVED=1", "LEFT=2", "HELD=0", "OFFERED=1", "PAID=2");
        Set<String> got = new TreeSet<>();
        for (Field field : WaitingBureau.class.getDeclaredFields()) {
            int modifiers = field.getModifiers();
            if (Modifier.isPublic(modifiers)) {
                got.add(field.getName() + "=" + field.get(null));
            } else {
                Check.same("whether " + field + " is private", true, Modifier.isPrivate(modifiers));
            }
            Check.same("whether " + field + " is final", true,
                    Modifier.isFinal(modifiers) || !Modifier.isStatic(modifiers));
        }
        Check.same("the constants", new TreeSet<>(due), got);
    }

    /** No method of a class inside bears the name of a public one, and the classes stay few and small. */
    private static void classesInside() {
        Set<String> names = new TreeSet<>();
        for (String signature : FACE.split(" ")) {
            names.add(signature.substring(0, signature.indexOf('(')));
        }
        Class<?>[] inside = WaitingBureau.class.getDeclaredClasses();
        Check.same("whether the classes are at most twelve", true, inside.length + 1 <= 12);
        for (Class<?> one : inside) {
            Check.same("whether " + one + " is static", true, Modifier.isStatic(one.getModifiers()));
            for (Method method : one.getDeclaredMethods()) {
                Check.same("whether the name of " + method + " is public", false, names.contains(method.getName()));
            }
        }
    }

    /** Only the constructor and what is thrown may make anything: a run has one room for all that it makes. */
    private static void room() {
        for (int i = 0; i < 200; i++) {
            madeByCalls();
        }
        long made = 0;
        for (int i = 0; i < 20; i++) {
            made += madeByCalls();
        }
        Check.same("whether 200 rounds of calls make less than 64 KB", true, made < 65536);
        long before = bytesMade();
        WaitingBureau bureau = null;
        for (int i = 0; i < 10; i++) {
            bureau = new WaitingBureau();
        }
        Check.same("whether ten objects make less than 3 MB", true, bytesMade() - before < 3000000);
        Check.same("persons", 3, bureau.count(1));
    }

    /** Ten rounds of calls with one object. */
    private static long madeByCalls() {
        WaitingBureau bureau = new WaitingBureau();
        long before = bytesMade();
        for (int round = 0; round < 10; round++) {
            useAll(bureau);
        }
        return bytesMade() - before;
    }

    private static void useAll(WaitingBureau bureau) {
        bureau.truncate(0);
        for (int i = 0; i < TEXT.length; i += 5) {
            bureau.append(TEXT[i], TEXT[i + 1], TEXT[i + 2], TEXT[i + 3], TEXT[i + 4]);
        }
        bureau.load();
        bureau.join(0, 0);
        bureau.save(0);
        bureau.set(0, 0);
        bureau.pass(3);
        bureau.claim(0);
        bureau.offer(0, 1);
        bureau.deposit(5);
        bureau.tokensIn(200);
        bureau.longestIfMerged(0, 1);
        bureau.unluckiest();
        bureau.repaid();
        bureau.write(0);
        bureau.undo();
        bureau.restore(0);
    }

    private static final int[] TEXT = words("bureau 0 0 1 9 9 0;office a 1 3 6;office b 1 3 6;person x;person yy;");

    private static int[] words(String text) {
        StringBuilder padded = new StringBuilder(text);
        while (padded.length() % 20 != 0) {
            padded.append(' ');
        }
        int[] words = new int[padded.length() / 4];
        for (int i = 0; i < words.length; i++) {
            words[i] = Check.word(padded, 4 * i);
        }
        return words;
    }

    private static long bytesMade() {
        com.sun.management.ThreadMXBean threads =
                (com.sun.management.ThreadMXBean) ManagementFactory.getThreadMXBean();
        return threads.getThreadAllocatedBytes(Thread.currentThread().getId());
    }
}
