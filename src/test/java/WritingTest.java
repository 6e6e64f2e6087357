/** Promises 49 to 52: the written text. */
final class WritingTest {
    private static final String TEXT = "archive 2000 6 8;class tax 10 0;class abcdef 5 0 forever;reader ann 4;"
            + "box 0 1980 at 5 7;box 1 1990;box 0 1995;box 0 1985;box 0 1984;box 0 1983";

    private WritingTest() {
    }

    static void run() {
        marks();
        shelves();
        lists();
        textRemains();
        wrongCalls();
    }

    private static void written(RetentionArchive x, int length, String due) {
        Checks.same("the length of \"" + due + "\"", length, due.length());
        Checks.same("the written text", Checks.written(x), due);
        Checks.throwsIndex("textByte behind the text", () -> x.textByte(due.length()));
    }

    private static void marks() {
        RetentionArchive x = Checks.loaded(TEXT);
        written(x, x.writeMark(0), "F7/tax");
        written(x, x.writeMark(1), "A0/abcdef");
        written(x, x.writeMark(2), "A1/tax");
        x.moveBox(1, 2, 4);
        written(x, x.writeMark(1), "C4/abcdef");
        x.makeList();
        x.approveList();
        written(x, x.writeMark(0), "-/tax");
    }

    private static void shelves() {
        RetentionArchive x = Checks.loaded(TEXT);
        written(x, x.writeShelf(0), "pbddd...");
        written(x, x.writeShelf(5), ".......d");
        written(x, x.writeShelf(1), "........");
        x.request(0, 1);
        x.request(0, 2);
        x.request(0, 3);
        x.seal(3, 2000);
        x.seal(4, 2000);
        written(x, x.writeShelf(0), "lllsd...");
        x.giveBack(1);
        x.seal(1, 2000);
        x.seal(2, 2000);
        x.giveBack(2);
        written(x, x.writeShelf(0), "sslsd...");
        x.passYears(1);
        written(x, x.writeShelf(0), "pbldd...");
        x.makeList();
        x.approveList();
        written(x, x.writeShelf(0), "pbl.....");
        Checks.same("writeShelf of one place", Checks.loaded("archive 2000 1 1").writeShelf(0), 1);
    }

    private static void lists() {
        RetentionArchive x = Checks.loaded(TEXT);
        written(x, x.writeList(), "-");
        x.makeList();
        written(x, x.writeList(), "0:1991 5:1994 4:1995 3:1996");
        x.strike(5, 1);
        written(x, x.writeList(), "0:1991 4:1995 3:1996");
        x.approveList();
        written(x, x.writeList(), "-");
        RetentionArchive y = Checks.loaded("archive 2000 6 8;class a 1 0;repeat 8(box 0 1990;box 0 1991;box 0 1992);list");
        StringBuilder all = new StringBuilder();
        for (int year = 1990; year <= 1992; year++) {
            for (int box = year - 1990; box < 24; box += 3) {
                all.append(all.length() == 0 ? "" : " ").append(box).append(':').append(year + 2);
            }
        }
        written(y, y.writeList(), all.toString());
        RetentionArchive five = Checks.loaded("archive 2500 1 1;class a 1 0;repeat 9(pass 50)");
        for (int i = 0; i < 150; i++) {
            five.passYears(50);
        }
        five.addBox(0, 10450);
        five.passYears(2);
        five.makeList();
        written(five, five.writeList(), "0:10452");
        Checks.throwsArgument("seal of a year behind 9999", () -> five.seal(0, 10452));
        Checks.throwsArgument("seal until 9999 when this year is over", () -> five.seal(0, 9999));
    }

    private static void textRemains() {
        RetentionArchive x = Checks.loaded(TEXT);
        Checks.throwsIndex("textByte(0) before a text has been written", () -> x.textByte(0));
        x.makeList();
        x.writeList();
        x.passYears(1);
        x.undo();
        x.save(0);
        x.restore(0);
        Checks.same("the text remains", Checks.written(x), "0:1991 5:1994 4:1995 3:1996");
        Checks.load(x, "archive 1950 1 1");
        Checks.same("the text remains after load", Checks.written(x), "0:1991 5:1994 4:1995 3:1996");
        Checks.same("a shorter text", x.writeShelf(0), 1);
        Checks.same("the text is replaced", Checks.written(x), ".");
        Checks.throwsIndex("textByte(1)", () -> x.textByte(1));
    }

    private static void wrongCalls() {
        RetentionArchive x = Checks.loaded(TEXT);
        x.writeMark(0);
        for (int box : new int[] {-1, 6, 24, Integer.MIN_VALUE, Integer.MAX_VALUE}) {
            Checks.refusesIndex(x, "writeMark(" + box + ")", () -> x.writeMark(box));
        }
        for (int shelf : new int[] {-1, 6, 7, Integer.MIN_VALUE, Integer.MAX_VALUE}) {
            Checks.refusesIndex(x, "writeShelf(" + shelf + ")", () -> x.writeShelf(shelf));
        }
        for (int index : new int[] {-1, 6, 7, Integer.MIN_VALUE, Integer.MAX_VALUE}) {
            Checks.refusesIndex(x, "textByte(" + index + ")", () -> x.textByte(index));
        }
        Checks.same("the text after wrong calls", Checks.written(x), "F7/tax");
    }
}
