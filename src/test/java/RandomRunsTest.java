import java.lang.reflect.InvocationTargetException;
import java.lang.reflect.Method;
import java.util.ArrayList;
import java.util.Comparator;
import java.util.List;
import java.util.Random;
import java.util.Set;

/** Random runs of calls, the same ones each time, whose answers are compared with those of the model. */
final class RandomRunsTest {
    private static final int RUNS = 300;
    private static final int TEXTS = 6000;
    private static final int MOST_REPORTS = 5;
    private static final Set<String> CHANGES = Set.of("passYears", "addBox", "moveBox", "seal", "request", "giveBack",
            "makeList", "strike", "approveList", "undo", "save", "restore", "writeMark", "writeShelf", "writeList");

    private final Random random;
    private final RetentionArchive x = new RetentionArchive();
    private final Model model = new Model();
    private final List<String> calls = new ArrayList<>();
    private boolean same = true;

    private RandomRunsTest(long seed) {
        random = new Random(seed);
    }

    static void run() {
        List<Method> methods = methods();
        int wrong = 0;
        for (long seed = 1; seed <= RUNS && wrong < MOST_REPORTS; seed++) {
            RandomRunsTest test = new RandomRunsTest(seed);
            test.randomCalls(methods);
            wrong += test.report();
        }
        for (long seed = 1; seed <= TEXTS && wrong < MOST_REPORTS; seed++) {
            RandomRunsTest test = new RandomRunsTest(-seed);
            test.randomText(methods);
            wrong += test.report();
        }
    }

    private static List<Method> methods() {
        List<Method> methods = new ArrayList<>();
        for (Method method : RetentionArchive.class.getDeclaredMethods()) {
            if (java.lang.reflect.Modifier.isPublic(method.getModifiers())) {
                methods.add(method);
            }
        }
        methods.sort(Comparator.comparing(Method::toString));
        return methods;
    }

    private int report() {
        Checks.same("a random run", same ? "the same" : String.join("\n", calls), "the same");
        return same ? 0 : 1;
    }

    private void call(Method method, Object... arguments) {
        try {
            Method other = Model.class.getMethod(method.getName(), method.getParameterTypes());
            String got = answer(method, x, arguments);
            String due = answer(other, model, arguments);
            calls.add(method.getName() + List.of(arguments) + " -> " + got + (got.equals(due) ? "" : ", due is " + due));
            same &= got.equals(due);
        } catch (NoSuchMethodException e) {
            calls.add("the model has no " + method);
            same = false;
        }
    }

    private static String answer(Method method, Object object, Object... arguments) {
        try {
            return String.valueOf(method.invoke(object, arguments));
        } catch (InvocationTargetException e) {
            return e.getCause().getClass().getName();
        } catch (IllegalAccessException e) {
            return "no access";
        }
    }

    private void call(List<Method> methods, String name, Object... arguments) {
        for (Method method : methods) {
            if (method.getName().equals(name)) {
                call(method, arguments);
            }
        }
    }

    private void load(List<Method> methods, String text) {
        calls.add("text: " + text);
        byte[] bytes = Checks.bytesOf(text);
        for (int at = 0; at < bytes.length; at += 20) {
            Object[] fours = new Object[5];
            for (int i = 0; i < 5; i++) {
                int four = 0;
                for (int j = at + 4 * i; j < at + 4 * i + 4; j++) {
                    four = four << 8 | (j < bytes.length ? bytes[j] & 255 : ' ');
                }
                fours[i] = four;
            }
            call(methods, "append", fours);
        }
        call(methods, "load", bytes.length);
        call(methods, "parseError");
        call(methods, "errorPosition");
        call(methods, "bufferLength");
    }

    // ---- random calls

    private void randomCalls(List<Method> methods) {
        load(methods, text(random.nextInt(12) == 0));
        for (int i = 0; i < 350 && same; i++) {
            Method method = methods.get(random.nextInt(methods.size()));
            boolean seldom = method.getName().equals("append") || method.getName().equals("load")
                    || method.getName().equals("yearsUntilFree");
            if (seldom && random.nextInt(8) != 0) {
                continue;
            }
            if (random.nextInt(120) == 0) {
                load(methods, text(random.nextBoolean()));
            }
            call(method, arguments(method));
            if (CHANGES.contains(method.getName())) {
                compareAll(methods);
            }
        }
    }

    private void compareAll(List<Method> methods) {
        int boxes = answer("boxCount");
        int readers = answer("readerCount");
        for (Method method : methods) {
            if (CHANGES.contains(method.getName()) || method.getName().matches("append|load|yearsUntilFree|freeAfter")) {
                continue;
            }
            if (method.getParameterCount() == 0) {
                call(method);
            } else if (random.nextInt(4) == 0) {
                call(method, arguments(method));
            }
        }
        for (String name : List.of("borrower", "loanYear", "destructionObstacle", "waitingReaders", "nextReader",
                "shelfOf", "placeOf", "sealedUntil", "postponement")) {
            for (int box = 0; box < boxes; box++) {
                call(methods, name, box);
            }
        }
        for (int reader = 0; reader < readers; reader++) {
            call(methods, "loansOf", reader);
        }
    }

    private int answer(String count) {
        try {
            return (Integer) Model.class.getMethod(count).invoke(model);
        } catch (ReflectiveOperationException e) {
            return 0;
        }
    }

    private Object[] arguments(Method method) {
        Object[] arguments = new Object[method.getParameterCount()];
        for (int i = 0; i < arguments.length; i++) {
            arguments[i] = argument(method.getName(), i);
        }
        return arguments;
    }

    private int argument(String method, int index) {
        if (random.nextInt(40) == 0) {
            int[] odd = {-1, Integer.MIN_VALUE, Integer.MAX_VALUE, 0, 8, 24, 50, 51, 100, 101, 600};
            return odd[random.nextInt(odd.length)];
        }
        int year = answer("year");
        if (index == 1 && (method.equals("addBox") || method.equals("seal"))) {
            return method.equals("seal") ? year - 1 + random.nextInt(8) : year + 2 - random.nextInt(70);
        }
        switch (method) {
            case "passYears":
                return random.nextInt(4) == 0 ? random.nextInt(52) : 1 + random.nextInt(4);
            case "destroyableAfter":
            case "freeAfter":
                return random.nextInt(104) - 1;
            case "yearsUntilFree":
                return random.nextInt(random.nextBoolean() ? 50 : 12);
            case "strike":
                return index == 1 ? random.nextInt(22) : random.nextInt(Math.max(1, answer("boxCount")));
            case "save":
            case "restore":
                return random.nextInt(2);
            case "textByte":
                return random.nextInt(12);
            case "moveBox":
                return index == 0 ? random.nextInt(Math.max(1, answer("boxCount"))) : random.nextInt(5);
            case "request":
            case "requestObstacle":
                return random.nextInt(Math.max(1, answer(index == 0 ? "readerCount" : "boxCount")));
            default:
                return random.nextInt(1 + Math.max(3, answer("boxCount")));
        }
    }

    // ---- random texts

    private void randomText(List<Method> methods) {
        for (int i = 0; i < 4; i++) {
            load(methods, text(random.nextInt(3) != 0));
        }
        compareAll(methods);
    }

    private String text(boolean damaged) {
        StringBuilder text = new StringBuilder();
        text.append("archive ").append(1900 + random.nextInt(150)).append(' ').append(1 + random.nextInt(4)).append(' ')
                .append(1 + random.nextInt(6));
        int classes = 1 + random.nextInt(4);
        int readers = 1 + random.nextInt(5);
        for (int i = 0; i < classes; i++) {
            text.append(";class ").append((char) ('a' + i)).append(i % 2 == 0 ? "x " : " ").append(1 + random.nextInt(12))
                    .append(' ').append(random.nextInt(6)).append(random.nextInt(4) == 0 ? " forever" : "");
        }
        for (int i = 0; i < readers; i++) {
            text.append(";reader ").append((char) ('p' + i)).append(' ').append(1 + random.nextInt(i % 2 + 2));
        }
        int lines = random.nextInt(40);
        for (int i = 0; i < lines && text.length() < 540; i++) {
            text.append(';').append(line(classes, readers, 0));
        }
        String whole = text.length() > 600 ? text.substring(0, 600) : text.toString();
        return damaged ? damage(whole) : whole;
    }

    private String line(int classes, int readers, int depth) {
        int box = random.nextInt(random.nextInt(10) == 0 ? 12 : 4);
        switch (random.nextInt(13)) {
            case 0:
            case 1:
            case 2:
                return "box " + random.nextInt(classes) + ' ' + (1900 - random.nextInt(20))
                        + (random.nextInt(3) == 0 ? " at " + random.nextInt(3) + ' ' + random.nextInt(4) : "");
            case 3:
            case 4:
                return "request " + random.nextInt(readers) + ' ' + box;
            case 5:
                return random.nextInt(3) == 0 ? "back " + box : "list";
            case 6:
                return random.nextInt(2) == 0 ? "seal " + box + ' ' + (2050 + random.nextInt(20)) : "list";
            case 7:
                return random.nextInt(3) == 0 ? "move " + box + ' ' + random.nextInt(2) + ' ' + random.nextInt(5) : "pass 1";
            case 8:
                return random.nextInt(4) == 0 ? "strike " + box + ' ' + (1 + random.nextInt(20)) : "pass 2";
            case 9:
                return random.nextInt(3) == 0 ? "list;approve" : "list";
            case 10:
                return "pass " + (1 + random.nextInt(random.nextInt(6) == 0 ? 50 : 3));
            default:
                return repeat(classes, readers, depth);
        }
    }

    private String repeat(int classes, int readers, int depth) {
        if (depth == 2 && random.nextInt(6) != 0 || depth > 2) {
            return "list";
        }
        StringBuilder repeat = new StringBuilder("repeat ").append(1 + random.nextInt(3)).append(" (");
        int lines = 1 + random.nextInt(3);
        for (int i = 0; i < lines; i++) {
            repeat.append(i == 0 ? "" : ";").append(line(classes, readers, depth + 1));
        }
        return repeat.append(')').toString();
    }

    private String damage(String text) {
        StringBuilder damaged = new StringBuilder(text);
        String[] parts = {" ", ";", "(", ")", "0", "9", "50", "list", "box", "class ", "a", " at 0 0", "forever", "x",
            "repeat 2(", "reader ", "pass 50;", "\u00ff", "A", "9999", "abcdefgh", "12345", "abcdefg"};
        int times = 1 + random.nextInt(2);
        for (int i = 0; i < times; i++) {
            int at = random.nextInt(damaged.length());
            switch (random.nextInt(4)) {
                case 0:
                    damaged.deleteCharAt(at);
                    break;
                case 1:
                    damaged.setLength(at);
                    damaged.append(' ');
                    break;
                case 2:
                    damaged.insert(at, parts[random.nextInt(parts.length)]);
                    break;
                default:
                    damaged.setCharAt(at, parts[random.nextInt(parts.length)].charAt(0));
                    break;
            }
        }
        return damaged.length() > 600 ? damaged.substring(0, 600) : damaged.toString();
    }
}
