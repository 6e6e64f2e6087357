import java.util.ArrayList;
import java.util.List;
import java.util.Random;
import java.util.Set;

/** Random runs of calls, the same ones each time, whose answers are compared with those of the model. */
final class RandomRunsTest {
    private static final int RUNS = 200;
    private static final int TEXTS = 1500;
    private static final int MOST_REPORTS = 5;
    private static final Set<String> CHANGES = Set.of("passYears", "addBox", "moveBox", "seal", "request", "giveBack",
            "makeList", "strike", "approveList", "undo", "save", "restore", "writeMark", "writeShelf", "writeList");
    /** The changes as often as they are called. */
    private static final String[] OFTEN = {"passYears", "passYears", "addBox", "addBox", "addBox", "moveBox", "seal",
        "request", "request", "request", "request", "request", "request", "giveBack", "giveBack", "makeList", "makeList",
        "strike", "approveList", "undo", "undo", "undo", "save", "restore", "writeMark", "writeShelf", "writeList"};

    private static final List<String> NAMES = List.copyOf(Calls.PROGRAM.keySet());

    private final Random random;
    private final RetentionArchive x = new RetentionArchive();
    private final Model model = new Model();
    private final List<String> calls = new ArrayList<>();
    private boolean same = true;

    private RandomRunsTest(long seed) {
        random = new Random(seed);
    }

    static void run() {
        int wrong = 0;
        for (long seed = 1; seed <= RUNS && wrong < MOST_REPORTS; seed++) {
            RandomRunsTest test = new RandomRunsTest(seed);
            test.randomCalls();
            wrong += test.report();
        }
        for (long seed = 1; seed <= TEXTS && wrong < MOST_REPORTS; seed++) {
            RandomRunsTest test = new RandomRunsTest(-seed);
            test.randomText();
            wrong += test.report();
        }
    }

    private int report() {
        Checks.same("a random run", same ? "the same" : String.join("\n", calls), "the same");
        return same ? 0 : 1;
    }

    private void call(String name, Object... arguments) {
        String got = Calls.answer(x, name, arguments);
        String due = Calls.answer(model, name, arguments);
        calls.add(name + List.of(arguments) + " -> " + got + (got.equals(due) ? "" : ", due is " + due));
        same &= got.equals(due);
    }

    private void load(String text) {
        calls.add("text: " + text);
        for (Object[] fours : Calls.fours(text)) {
            call("append", fours);
        }
        call("load", text.length());
        call("parseError");
        call("errorPosition");
        call("bufferLength");
    }

    // ---- random calls

    private void randomCalls() {
        load(text());
        for (int i = 0; i < 120 && same; i++) {
            if (random.nextInt(60) == 0) {
                load(random.nextBoolean() ? text() : damage(text()));
            }
            if (random.nextInt(3) != 0) {
                String name = OFTEN[random.nextInt(OFTEN.length)];
                call(name, arguments(name));
                compareAll();
            } else {
                String name = NAMES.get(random.nextInt(NAMES.size()));
                call(name, arguments(name));
            }
        }
    }

    private void compareAll() {
        for (String name : NAMES) {
            if (CHANGES.contains(name) || name.matches("append|load|yearsUntilFree|freeAfter|destroyableAfter")) {
                continue;
            }
            int parameters = Calls.PROGRAM.get(name).getParameterCount();
            if (parameters == 0 || random.nextInt(4) == 0) {
                call(name, arguments(name));
            }
        }
        for (int box = 0; box < number("boxCount"); box++) {
            for (String name : List.of("borrower", "loanYear", "destructionObstacle", "waitingReaders", "nextReader",
                    "shelfOf", "placeOf", "sealedUntil", "postponement")) {
                call(name, box);
            }
        }
        for (int reader = 0; reader < number("readerCount"); reader++) {
            call("loansOf", reader);
        }
        for (int position = 0; position < number("listLength"); position++) {
            call("listedBox", position);
        }
    }

    /** 0 if there is no archive. */
    private int number(String count) {
        String number = Calls.answer(model, count);
        return number.endsWith("Exception") ? 0 : Integer.parseInt(number);
    }

    private Object[] arguments(String name) {
        Object[] arguments = new Object[Calls.PROGRAM.get(name).getParameterCount()];
        for (int i = 0; i < arguments.length; i++) {
            arguments[i] = random.nextInt(40) == 0 ? odd() : argument(name, i);
        }
        return arguments;
    }

    private int odd() {
        int[] odd = {-1, Integer.MIN_VALUE, Integer.MAX_VALUE, 0, 6, 8, 24, 50, 51, 100, 101, 600};
        return odd[random.nextInt(odd.length)];
    }

    private int below(String count) {
        return random.nextInt(Math.max(1, number(count)));
    }

    private int argument(String name, int index) {
        switch (name) {
            case "passYears":
                return random.nextInt(5) == 0 ? random.nextInt(52) : 1 + random.nextInt(3);
            case "destroyableAfter":
            case "freeAfter":
                return random.nextInt(random.nextBoolean() ? 102 : 8);
            case "yearsUntilFree":
                return random.nextInt(random.nextBoolean() ? 50 : 12);
            case "load":
                return random.nextInt(100);
            case "save":
            case "restore":
                return random.nextInt(2);
            case "textByte":
                return random.nextInt(12);
            case "classLetter":
                return index == 0 ? below("classCount") : random.nextInt(7);
            case "readerLetter":
                return index == 0 ? below("readerCount") : random.nextInt(7);
            case "period":
            case "closedPeriod":
            case "isPermanent":
                return below("classCount");
            case "loanLimit":
            case "loansOf":
                return below("readerCount");
            case "addBox":
                return index == 0 ? below("classCount") : number("year") + 1 - random.nextInt(15);
            case "seal":
                return index == 0 ? below("boxCount") : number("year") - 1 + random.nextInt(6);
            case "strike":
                return index == 0 ? below("boxCount") : random.nextInt(22);
            case "request":
            case "requestObstacle":
                return below(index == 0 ? "readerCount" : "boxCount");
            case "boxAt":
                return below(index == 0 ? "shelfCount" : "placesPerShelf");
            case "moveBox":
                return below(index == 0 ? "boxCount" : index == 1 ? "shelfCount" : "placesPerShelf");
            case "writeShelf":
                return below("shelfCount");
            default:
                return below("boxCount");
        }
    }

    // ---- random texts

    private void randomText() {
        String text = text();
        load(text);
        compareAll();
        for (int i = 0; i < 8; i++) {
            load(damage(text));
        }
        compareAll();
    }

    /** A text without an error: a line that the model refuses is left out. */
    private String text() {
        int places = 1 + random.nextInt(8);
        StringBuilder text = new StringBuilder();
        text.append("archive ").append(1990 + random.nextInt(20)).append(' ').append(1 + random.nextInt(6)).append(' ')
                .append(places);
        int classes = 1 + random.nextInt(4);
        int readers = random.nextInt(7);
        for (int i = 0; i < classes; i++) {
            text.append(";class ").append("abcdef", i, i + 1 + random.nextInt(3)).append(' ')
                    .append(1 + random.nextInt(8)).append(' ').append(random.nextInt(4))
                    .append(random.nextInt(5) == 0 ? " forever" : "");
        }
        for (int i = 0; i < readers; i++) {
            text.append(";reader ").append("pqrstuvwx", i, i + 1 + random.nextInt(3)).append(' ')
                    .append(1 + random.nextInt(2) * random.nextInt(4));
        }
        int attempts = random.nextInt(80);
        for (int i = 0; i < attempts; i++) {
            String longer = text + ";" + line(classes, Math.max(1, readers), 0);
            if (longer.length() <= 600 && accepted(longer)) {
                text.setLength(0);
                text.append(longer);
            }
        }
        return text.toString();
    }

    private static boolean accepted(String text) {
        return !Calls.load(new Model(), text).endsWith("Exception");
    }

    private String line(int classes, int readers, int depth) {
        int box = random.nextInt(random.nextBoolean() ? 24 : 5);
        switch (random.nextInt(15)) {
            case 0:
            case 1:
            case 2:
            case 3:
                return "box " + random.nextInt(classes) + ' ' + (1995 - random.nextInt(15))
                        + (random.nextInt(3) == 0 ? " at " + random.nextInt(3) + ' ' + random.nextInt(4) : "");
            case 4:
            case 5:
            case 6:
                return "request " + random.nextInt(readers) + ' ' + box;
            case 7:
                return "back " + box;
            case 8:
                return "seal " + box + ' ' + (1990 + random.nextInt(40));
            case 9:
                return "move " + box + ' ' + random.nextInt(4) + ' ' + random.nextInt(5);
            case 10:
                return random.nextBoolean() ? "list" : "strike " + box + ' ' + (1 + random.nextInt(20));
            case 11:
                return random.nextBoolean() ? "list;approve" : "approve";
            case 12:
                return "pass " + (1 + random.nextInt(random.nextInt(6) == 0 ? 50 : 3));
            default:
                return repeat(classes, readers, depth);
        }
    }

    private String repeat(int classes, int readers, int depth) {
        if (depth == 2 && random.nextInt(6) != 0 || depth > 2) {
            return "list";
        }
        StringBuilder repeat = new StringBuilder("repeat ").append(1 + random.nextInt(3)).append(" (");
        int lines = 1 + random.nextInt(3);
        for (int i = 0; i < lines; i++) {
            repeat.append(i == 0 ? "" : ";").append(line(classes, readers, depth + 1));
        }
        return repeat.append(')').toString();
    }

    private String damage(String text) {
        StringBuilder damaged = new StringBuilder(text);
        String[] parts = {" ", ";", "(", ")", "0", "9", "50", "list", "box", "class ", "a", " at 0 0", "forever", "x",
            "repeat 2(", "reader ", "pass 50;", ";pass 50", "\u00ff", "A", "9999", "abcdefgh", "12345", "abcdefg",
            ";box 0 1990", ";list;approve", ";request 0 0"};
        if (random.nextInt(3) == 0) {
            damaged.append(';').append(line(4, 6, random.nextInt(2)));
        }
        int times = random.nextInt(3);
        for (int i = 0; i < times && damaged.length() > 0; i++) {
            int at = random.nextInt(damaged.length());
            switch (random.nextInt(5)) {
                case 0:
                    damaged.deleteCharAt(at);
                    break;
                case 1:
                    damaged.setLength(at);
                    damaged.append(' ');
                    break;
                case 2:
                    damaged.insert(at, parts[random.nextInt(parts.length)]);
                    break;
                case 3:
                    damaged.setCharAt(at, (char) ('0' + random.nextInt(10)));
                    break;
                default:
                    damaged.setCharAt(at, parts[random.nextInt(parts.length)].charAt(0));
                    break;
            }
        }
        return damaged.length() > 600 ? damaged.substring(0, 600) : damaged.toString();
    }
}
