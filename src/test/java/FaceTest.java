import java.lang.reflect.Constructor;
import java.lang.reflect.Field;
import java.lang.reflect.Method;
import java.lang.reflect.Modifier;
import java.util.Arrays;
import java.util.TreeSet;

/** The public face, and what its calls answer before a text has been loaded. */
final class FaceTest {
    private static final String[] FACE = {
        "int append(int,int,int,int,int)", "int load(int) throws IndexOutOfBoundsException,IllegalArgumentException",
        "int parseError()", "int errorPosition()", "int bufferLength()",
        "int year() S", "int classCount() S", "int boxCount() S", "int readerCount() S", "int shelfCount() S",
        "int placesPerShelf() S", "int freePlaces() S", "int firstFreeMark() S", "int boxAt(int,int) SX",
        "int destroyedCount() S", "int loanCount() S", "int inconsistencies() S",
        "int classLetter(int,int) SX", "int period(int) SX", "int closedPeriod(int) SX",
        "boolean isPermanent(int) SX", "int classOf(int) SX", "int closingYear(int) SX", "int shelfOf(int) SX",
        "int placeOf(int) SX", "boolean isDestroyed(int) SX", "boolean isSealed(int) SX", "int sealedUntil(int) SX",
        "int borrower(int) SX", "int loanYear(int) SX", "int dueYear(int) SX", "int postponement(int) SX",
        "int destructionObstacle(int) SX", "int listLength() S", "int listedBox(int) SX",
        "int readerLetter(int,int) SX", "int loanLimit(int) SX", "int loansOf(int) SX",
        "int requestObstacle(int,int) SX", "int waitingReaders(int) SX", "int nextReader(int) SX",
        "int destroyableAfter(int) SA", "int freeAfter(int) SA", "int yearsUntilFree(int) SA", "int nextDueBox() S",
        "float usedShare() S", "double meanAge() S", "int writeMark(int) SX", "int writeShelf(int) SX",
        "int writeList() S", "int textByte(int) throws IndexOutOfBoundsException", "int passYears(int) SA",
        "int addBox(int,int) SXA", "int moveBox(int,int,int) SXA", "int seal(int,int) SXA",
        "boolean request(int,int) SXA", "int giveBack(int) SXA", "int makeList() S", "int strike(int,int) SXA",
        "int approveList() S", "int undo() S", "int undoable()", "int save(int) SX",
        "int restore(int) throws IndexOutOfBoundsException,IllegalStateException",
    };

    private FaceTest() {
    }

    static void run() {
        faceIsThatOfTheDocument();
        everyCallNeedsAnArchive();
        newObject();
    }

    private static void faceIsThatOfTheDocument() {
        TreeSet<String> due = new TreeSet<>();
        for (String row : FACE) {
            due.add(row.replace(" SXA", " throws IllegalStateException,IndexOutOfBoundsException,IllegalArgumentException")
                    .replace(" SX", " throws IllegalStateException,IndexOutOfBoundsException")
                    .replace(" SA", " throws IllegalStateException,IllegalArgumentException")
                    .replace(" S", " throws IllegalStateException"));
        }
        TreeSet<String> got = new TreeSet<>();
        for (Method method : RetentionArchive.class.getDeclaredMethods()) {
            if (!Modifier.isPrivate(method.getModifiers())) {
                got.add(row(method));
            }
        }
        Checks.same("the methods of the face", got, due);
        TreeSet<String> fields = new TreeSet<>();
        for (Field field : RetentionArchive.class.getDeclaredFields()) {
            if (!Modifier.isPrivate(field.getModifiers())) {
                fields.add(field.toString());
            }
        }
        Checks.same("the constants of the face", fields.toString(),
                "[public static final int RetentionArchive.NONE]");
        Constructor<?>[] constructors = RetentionArchive.class.getDeclaredConstructors();
        Checks.same("the constructors of the face", Arrays.toString(constructors), "[public RetentionArchive()]");
        Checks.same("the class is public and final", Modifier.toString(RetentionArchive.class.getModifiers()),
                "public final");
        Checks.same("NONE", RetentionArchive.NONE, -1);
    }

    private static String row(Method method) {
        StringBuilder row = new StringBuilder();
        row.append(method.getReturnType()).append(' ').append(method.getName()).append('(');
        row.append(names(method.getParameterTypes())).append(')');
        if (method.getExceptionTypes().length > 0) {
            row.append(" throws ").append(names(method.getExceptionTypes()));
        }
        return row.toString();
    }

    private static String names(Class<?>[] types) {
        StringBuilder names = new StringBuilder();
        for (Class<?> type : types) {
            names.append(names.length() == 0 ? "" : ",").append(type.getSimpleName());
        }
        return names.toString();
    }

    /** The missing archive comes before everything else that is wrong; after a wrong text there is still none. */
    private static void everyCallNeedsAnArchive() {
        RetentionArchive x = new RetentionArchive();
        needsArchive(x);
        Checks.throwsArgument("load of nothing", () -> x.load(0));
        needsArchive(x);
    }

    private static void needsArchive(RetentionArchive x) {
        for (Method method : RetentionArchive.class.getDeclaredMethods()) {
            Class<?>[] thrown = method.getExceptionTypes();
            boolean needs = thrown.length > 0 && thrown[0] == IllegalStateException.class;
            for (int argument : new int[] {0, -1, 1, 9999}) {
                if (needs && !Modifier.isPrivate(method.getModifiers())) {
                    Checks.same(method.getName() + " without an archive", answer(x, method, argument),
                            "IllegalStateException");
                }
            }
        }
    }

    private static String answer(RetentionArchive x, Method method, int argument) {
        Object[] arguments = new Object[method.getParameterCount()];
        Arrays.fill(arguments, argument);
        try {
            return String.valueOf(method.invoke(x, arguments));
        } catch (java.lang.reflect.InvocationTargetException e) {
            return e.getCause().getClass().getSimpleName();
        } catch (IllegalAccessException e) {
            return "no access";
        }
    }

    private static void newObject() {
        RetentionArchive x = new RetentionArchive();
        Checks.same("bufferLength of a new object", x.bufferLength(), 0);
        Checks.same("parseError of a new object", x.parseError(), 0);
        Checks.same("errorPosition of a new object", x.errorPosition(), -1);
        Checks.same("undoable of a new object", x.undoable(), 0);
        Checks.throwsIndex("textByte(0) of a new object", () -> x.textByte(0));
        Checks.throwsIndex("textByte(-1) of a new object", () -> x.textByte(-1));
        Checks.throwsState("undo of a new object", x::undo);
        Checks.throwsState("restore(0) of a new object", () -> x.restore(0));
        Checks.throwsState("restore(1) of a new object", () -> x.restore(1));
        Checks.throwsIndex("restore(2) of a new object", () -> x.restore(2));
        Checks.throwsIndex("restore(-1) of a new object", () -> x.restore(-1));
    }
}
