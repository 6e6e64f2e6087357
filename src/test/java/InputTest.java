/** Promises 2 to 6: append, load, parseError, errorPosition, bufferLength. */
final class InputTest {
    private static final String TEXT = "archive 2000 2 3;class tax 10 2;box 0 1990";

    private InputTest() {
    }

    static void run() {
        appendFillsTheBuffer();
        appendKeepsTheOrderOfTheBytes();
        appendTakesEveryByte();
        loadParsesTheFirstBytes();
        loadNeedsALengthWithinTheBuffer();
        loadOfAWrongTextKeepsTheArchive();
        loadReplacesTheArchive();
        loadKeepsNothingOfEarlierTexts();
    }

    private static void appendFillsTheBuffer() {
        RetentionArchive x = new RetentionArchive();
        for (int length = 20; length <= 600; length += 20) {
            Checks.same("append", x.append(0, -1, 1, Integer.MIN_VALUE, Integer.MAX_VALUE), length);
            Checks.same("bufferLength", x.bufferLength(), length);
        }
        Checks.same("append beyond 600", x.append(1, 2, 3, 4, 5), -1);
        Checks.same("bufferLength beyond 600", x.bufferLength(), 600);
        Checks.same("parseError", x.parseError(), 0);
    }

    private static void appendKeepsTheOrderOfTheBytes() {
        RetentionArchive x = new RetentionArchive();
        x.append(('a' << 24) + ('r' << 16) + ('c' << 8) + 'h', ('i' << 24) + ('v' << 16) + ('e' << 8) + '1',
                ('9' << 24) + ('8' << 16) + ('7' << 8) + ' ', ('2' << 24) + (' ' << 16) + ('5' << 8) + ' ',
                (' ' << 24) + (' ' << 16) + (' ' << 8) + ';');
        Checks.same("load(19)", x.load(19), 0);
        Checks.same("year", x.year(), 1987);
        Checks.same("shelfCount", x.shelfCount(), 2);
        Checks.same("placesPerShelf", x.placesPerShelf(), 5);
    }

    /** Each byte of a parameter is taken as it is, the negative ones too. */
    private static void appendTakesEveryByte() {
        for (int b = 0; b < 256; b++) {
            String text = "archive 2000 2 3" + (char) b;
            if (b == ' ' || b == ';') {
                continue;
            }
            if (b >= '0' && b <= '9') {
                Checks.wrongAt(2, 15, text);
            } else {
                Checks.wrongAt(1, 16, text);
            }
        }
    }

    private static void loadParsesTheFirstBytes() {
        RetentionArchive x = new RetentionArchive();
        Checks.append(x, TEXT + " xyz");
        Checks.same("load of a part", x.load(TEXT.length()), 1);
        Checks.same("bufferLength after load", x.bufferLength(), 0);
        Checks.append(x, TEXT);
        Checks.throwsArgument("load(5)", () -> x.load(5));
        Checks.same("parseError", x.parseError(), 1);
        Checks.same("errorPosition", x.errorPosition(), 0);
        Checks.same("bufferLength after a wrong text", x.bufferLength(), 0);
        Checks.throwsArgument("load(0)", () -> x.load(0));
        Checks.same("errorPosition of nothing", x.errorPosition(), 0);
        Checks.append(x, TEXT);
        Checks.throwsArgument("load(18)", () -> x.load(18));
        Checks.same("errorPosition of a word that is cut off", x.errorPosition(), 17);
        Checks.append(x, TEXT);
        Checks.throwsArgument("load(17)", () -> x.load(17));
        Checks.same("errorPosition is the number of parsed bytes", x.errorPosition(), 17);
        Checks.append(x, "archive 2000 2 3;   class");
        Checks.throwsArgument("load(19)", () -> x.load(19));
        Checks.same("errorPosition behind spaces", x.errorPosition(), 19);
        Checks.same("load after an error", Checks.load(x, TEXT), 1);
        Checks.same("parseError after success", x.parseError(), 0);
        Checks.same("errorPosition after success", x.errorPosition(), -1);
        String full = "archive 2000 2 3;class tax 10 2;box 0 1990" + " ".repeat(558);
        Checks.same("load(600)", Checks.load(x, full), 1);
        Checks.append(x, "archive 2000 1 1;" + "list;".repeat(116) + "pas");
        Checks.throwsArgument("load(600) of a wrong text", () -> x.load(600));
        Checks.same("errorPosition at the end of the buffer", x.errorPosition(), 597);
    }

    private static void loadNeedsALengthWithinTheBuffer() {
        RetentionArchive x = new RetentionArchive();
        Checks.throwsIndex("load(1) of an empty buffer", () -> x.load(1));
        Checks.append(x, "zap");
        Checks.throwsArgument("load(3)", () -> x.load(3));
        Checks.append(x, TEXT);
        for (int length : new int[] {-1, 61, 601, Integer.MIN_VALUE, Integer.MAX_VALUE}) {
            Checks.refusesIndex(x, "load(" + length + ")", () -> x.load(length));
        }
        Checks.same("the stored error remains", x.parseError(), 1);
        Checks.same("the buffer remains", x.bufferLength(), 60);
        Checks.same("load(60)", x.load(60), 1);
        Checks.same("the stored error is gone", x.parseError(), 0);
        Checks.refusesIndex(x, "load(1)", () -> x.load(1));
        Checks.same("success remains stored", x.parseError(), 0);
    }

    private static void loadOfAWrongTextKeepsTheArchive() {
        RetentionArchive x = Checks.loaded(TEXT);
        x.writeMark(0);
        x.makeList();
        x.save(1);
        x.passYears(3);
        String before = Checks.state(x);
        Checks.throwsArgument("load of a wrong text",
                () -> Checks.load(x, "archive 1950 6 8;class law 1 1;box 0 1949;reader ann 1;pass 9;list;back 0"));
        Checks.same("the archive after a wrong text", Checks.state(x), before);
        Checks.same("parseError", x.parseError(), 3);
        Checks.same("errorPosition", x.errorPosition(), 72);
        Checks.same("undoable after a wrong text", x.undoable(), 2);
        Checks.same("the written text after a wrong text", Checks.written(x), "A0/tax");
        Checks.same("undo after a wrong text", x.undo(), 1);
        Checks.same("restore after a wrong text", x.restore(1), 2000);
        Checks.same("the error remains after undo and restore", x.parseError(), 3);
    }

    private static void loadReplacesTheArchive() {
        RetentionArchive x = Checks.loaded(TEXT + ";reader ann 1;list");
        x.writeShelf(0);
        x.save(0);
        x.save(1);
        x.passYears(1);
        Checks.same("load", Checks.load(x, "archive 1950 1 1"), 0);
        Checks.same("year", x.year(), 1950);
        Checks.same("classCount", x.classCount(), 0);
        Checks.same("boxCount", x.boxCount(), 0);
        Checks.same("readerCount", x.readerCount(), 0);
        Checks.same("listLength", x.listLength(), 0);
        Checks.same("shelfCount", x.shelfCount(), 1);
        Checks.same("placesPerShelf", x.placesPerShelf(), 1);
        Checks.same("undoable", x.undoable(), 0);
        Checks.throwsState("undo after load", x::undo);
        Checks.throwsState("restore(0) after load", () -> x.restore(0));
        Checks.throwsState("restore(1) after load", () -> x.restore(1));
        Checks.same("the written text after load", Checks.written(x), "b..");
    }

    private static void loadKeepsNothingOfEarlierTexts() {
        String many = "class a 1 0;class b 1 0;reader r 1;reader s 4;box 0 1980;box 1 1981;box 0 1982";
        RetentionArchive x = Checks.loaded("archive 2000 2 3;" + many + ";request 0 0;request 0 1;request 1 1;request 0 2;"
                + "seal 2 2010;list;strike 1 5;list;repeat 5(pass 50;pass 40);pass 50");
        Checks.same("year after 500 years", x.year(), 2500);
        String fresh = Checks.state(Checks.loaded("archive 1990 2 3;" + many));
        Checks.load(x, "archive 1990 2 3;" + many);
        Checks.same("the state is that of a new object", Checks.state(x), fresh);
        Checks.throwsArgument("load of a wrong text", () -> Checks.load(x, "archive 1990 2 3;" + many
                + ";request 0 0;request 0 1;seal 2 2010;list;zap"));
        Checks.load(x, "archive 1990 2 3;" + many);
        Checks.same("the state is that of a new object once more", Checks.state(x), fresh);
        Checks.load(x, "archive 2000 1 1;repeat 9(pass 50);pass 50");
        Checks.load(x, "archive 2000 1 1;repeat 9(pass 50);pass 50");
        Checks.same("years of an earlier text do not count", x.year(), 2500);
    }
}
