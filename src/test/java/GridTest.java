import java.util.Arrays;

/**
 * Each call with each number at and next to a limit, on several archives, and a text with each of its tokens taken out,
 * cut off or replaced: the answers are compared with the model's, and a refused call changes nothing.
 */
final class GridTest {
    private static final int[] NUMBERS = {Integer.MIN_VALUE, -1, 0, 1, 2, 3, 4, 5, 6, 7, 8, 23, 24, Integer.MAX_VALUE};
    private static final int[] YEARS = {Integer.MIN_VALUE, -1, 0, 1, 19, 20, 21, 49, 50, 51, 99, 100, 101, Integer.MAX_VALUE};
    private static final int[] PLACES = {Integer.MIN_VALUE, -1, 0, 1, 2, 8, 9, 47, 48, 49, Integer.MAX_VALUE};
    private static final int[] CALENDAR = {Integer.MIN_VALUE, 0, 1799, 1800, 1999, 2000, 2001, 2002, 2003, 2004, 9998, 9999,
        10000, Integer.MAX_VALUE};
    private static final int[] BYTES = {Integer.MIN_VALUE, -1, 0, 1, 19, 20, 21, 599, 600, 601, Integer.MAX_VALUE};

    private static final String[] ARCHIVES = {
        "",
        "archive 2000 1 1",
        "archive 2000 1 1;class a 1 0;reader a 1;box 0 1990;list",
        "archive 2000 2 3;class tax 10 0;class maps 5 3 forever;class law 20 30;reader ann 1;reader bobby 2;reader c 1;"
            + "reader d 4;reader abcdef 1;box 0 1980;list;approve;box 0 1980;box 1 1980;box 0 1985;box 2 1990;box 0 1970;"
            + "request 0 1;request 1 1;request 2 1;request 3 1;request 1 3;request 0 3;seal 2 2003;list;pass 1;seal 5 2001",
        "archive 2000 6 8;class a 1 0;class b 1 0 forever;class c 1 0;class d 1 0;class e 1 0;class f 1 0;class g 1 0;"
            + "class h 50 50;reader a 1;reader b 2;reader c 3;reader d 4;reader e 1;reader f 1;repeat 7(box 0 1980;box 1 1990;"
            + "box 2 1999);box 7 1900;box 7 2000;box 7 1950 at 5 7;pass 2;list;request 0 0;request 1 0;request 5 23;request 5 1",
        "archive 2000 3 8;class a 1 0;reader a 4;repeat 8(box 0 1980;box 0 1981;box 0 1990);list;request 0 0;seal 1 2002;"
            + "approve;pass 2",
    };

    private static final String TEXT = "archive 2000 2 4;class tax 9 0;class law 5 0 forever;box 0 1980;box 0 1985 at 1 2;"
            + "reader ann 1;reader bob 2;seal 1 2003;request 0 0;request 1 0;back 0;move 0 0 3;pass 4;list;strike 0 2;approve;"
            + "repeat 2(box 0 1990;repeat 2(pass 3;list);request 1 0;back 0);box 1 2000";
    private static final String[] TOKENS = {"", ";", "(", ")", "list", "box", "at", "forever", "archive", "repeat", "zap",
        "tax", "ann", "abcdefg", "abcdefgh", "0", "1", "2", "3", "9", "0001", "50", "51", "1985", "2500", "9999", "00001",
        "A", "list;approve", "; ;", "repeat 2(", "(list)", ";list", "pass 1;", "repeat 1(repeat 1(list));"};

    private GridTest() {
    }

    static void run() {
        for (String text : ARCHIVES) {
            if (!text.isEmpty()) {
                Checks.right(text);
            }
            String unchanged = Checks.whole(made(text));
            for (String name : Calls.PROGRAM.keySet()) {
                if (!name.equals("append")) {
                    eachArgument(text, unchanged, name);
                }
            }
        }
        Checks.right(TEXT);
        eachToken();
        eachLength();
    }

    // ---- calls

    private static int[] edges(String name, int index) {
        switch (name) {
            case "load":
                return BYTES;
            case "destroyableAfter":
            case "freeAfter":
            case "passYears":
                return YEARS;
            case "yearsUntilFree":
                return PLACES;
            case "strike":
                return index == 0 ? NUMBERS : YEARS;
            case "addBox":
            case "seal":
                return index == 0 ? NUMBERS : CALENDAR;
            default:
                return NUMBERS;
        }
    }

    private static void eachArgument(String text, String unchanged, String name) {
        int count = Calls.PROGRAM.get(name).getParameterCount();
        int[] at = new int[count];
        boolean more = true;
        while (more) {
            Object[] arguments = new Object[count];
            for (int i = 0; i < count; i++) {
                arguments[i] = edges(name, i)[at[i]];
            }
            compare(text, unchanged, name, arguments);
            more = false;
            for (int i = 0; i < count && !more; i++) {
                at[i] = (at[i] + 1) % edges(name, i).length;
                more = at[i] != 0;
            }
        }
    }

    private static RetentionArchive made(String text) {
        RetentionArchive x = new RetentionArchive();
        prepare(x, text);
        return x;
    }

    /** Some changes, a state in slot 1, a written text, a stored error and 20 bytes; as much as the archive allows. */
    private static void prepare(Object x, String text) {
        if (!text.isEmpty()) {
            Calls.load(x, text);
            Calls.load(x, "archive 2000 1 1;list  zap");
            Calls.answer(x, "seal", 3, 2010);
            Calls.answer(x, "undo");
            Calls.answer(x, "writeMark", 0);
            Calls.answer(x, "addBox", 0, 2000);
            Calls.answer(x, "save", 1);
            Calls.answer(x, "giveBack", 3);
        }
        Calls.answer(x, "append", Calls.fours("archive 1999 2 2;zap").get(0));
    }

    private static void compare(String text, String unchanged, String name, Object[] arguments) {
        RetentionArchive x = made(text);
        Model model = new Model();
        prepare(model, text);
        String call = name + Arrays.toString(arguments) + " of \"" + text + "\"";
        String got = Calls.answer(x, name, arguments);
        Checks.same(call, got, Calls.answer(model, name, arguments));
        boolean loadChanges = name.equals("load") && !got.endsWith("IndexOutOfBoundsException");
        if (got.endsWith("Exception") && !loadChanges) {
            Checks.same("after the refused " + call, Checks.whole(x), unchanged);
        }
    }

    // ---- texts

    private static void eachToken() {
        String[] tokens = TEXT.replaceAll("([;()])", " $1 ").trim().split(" +");
        for (int i = 0; i < tokens.length; i++) {
            for (String other : TOKENS) {
                compareLoad(joined(tokens, 0, i) + other + " " + joined(tokens, i + 1, tokens.length));
                compareLoad(joined(tokens, 0, i) + other + " " + joined(tokens, i, tokens.length));
            }
        }
    }

    private static void eachLength() {
        for (int length = 0; length <= TEXT.length(); length++) {
            compareLoad(TEXT.substring(0, length));
            compareLoad(TEXT.substring(0, length) + " ");
        }
    }

    private static String joined(String[] tokens, int from, int to) {
        return String.join(" ", Arrays.copyOfRange(tokens, from, to)) + " ";
    }

    private static void compareLoad(String text) {
        Checks.same("load of \"" + text + "\"", outcome(new RetentionArchive(), text), outcome(new Model(), text));
    }

    private static String outcome(Object x, String text) {
        return Calls.load(x, text) + " error " + Calls.answer(x, "parseError") + " at " + Calls.answer(x, "errorPosition")
                + " year " + Calls.answer(x, "year") + " destroyed " + Calls.answer(x, "destroyedCount");
    }
}
