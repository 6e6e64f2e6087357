/** Promises 7 to 33: the archive, its shelf marks, its record classes and its boxes. */
final class ArchiveTest {
    private static final String TEXT = "archive 2000 2 3;class tax 10 2;class maps 5 0 forever;reader ann 1;reader bobby 2;"
            + "box 0 1988;box 0 1995;box 1 1990 at 1 1;box 0 1985;seal 1 2004";

    private ArchiveTest() {
    }

    static void run() {
        numbersOfTheArchive();
        shelfMarks();
        fullArchive();
        recordClasses();
        boxes();
        seals();
        numbersThatDoNotExist();
    }

    private static void numbersOfTheArchive() {
        RetentionArchive x = Checks.loaded(TEXT);
        Checks.same("year", x.year(), 2000);
        Checks.same("classCount", x.classCount(), 2);
        Checks.same("boxCount", x.boxCount(), 4);
        Checks.same("readerCount", x.readerCount(), 2);
        Checks.same("shelfCount", x.shelfCount(), 2);
        Checks.same("placesPerShelf", x.placesPerShelf(), 3);
        Checks.same("destroyedCount", x.destroyedCount(), 0);
        Checks.same("loanCount", x.loanCount(), 0);
        Checks.same("inconsistencies", x.inconsistencies(), 0);
        x.request(0, 0);
        x.request(1, 3);
        Checks.same("loanCount", x.loanCount(), 2);
        x.giveBack(0);
        Checks.same("loanCount", x.loanCount(), 1);
        x.makeList();
        x.approveList();
        Checks.same("destroyedCount", x.destroyedCount(), 1);
        Checks.same("boxCount with a destroyed one", x.boxCount(), 4);
        Checks.same("inconsistencies", x.inconsistencies(), 0);
        x.passYears(1);
        Checks.same("year", x.year(), 2001);
        RetentionArchive empty = Checks.loaded("archive 1900 6 8");
        Checks.same("classCount", empty.classCount(), 0);
        Checks.same("boxCount", empty.boxCount(), 0);
        Checks.same("readerCount", empty.readerCount(), 0);
        Checks.same("shelfCount", empty.shelfCount(), 6);
        Checks.same("placesPerShelf", empty.placesPerShelf(), 8);
        Checks.same("freePlaces", empty.freePlaces(), 48);
        Checks.same("inconsistencies", empty.inconsistencies(), 0);
    }

    private static void shelfMarks() {
        RetentionArchive x = Checks.loaded(TEXT);
        Checks.same("freePlaces", x.freePlaces(), 2);
        Checks.same("firstFreeMark", x.firstFreeMark(), 3);
        int[] due = {0, 1, 3, -1, 2, -1};
        for (int mark = 0; mark < 6; mark++) {
            Checks.same("boxAt mark " + mark, x.boxAt(mark / 3, mark % 3), due[mark]);
        }
        Checks.same("shelfOf", x.shelfOf(2), 1);
        Checks.same("placeOf", x.placeOf(2), 1);
        Checks.same("shelfOf", x.shelfOf(3), 0);
        Checks.same("placeOf", x.placeOf(3), 2);
        x.request(0, 0);
        Checks.same("boxAt of a lent box", x.boxAt(0, 0), 0);
        Checks.same("shelfOf a lent box", x.shelfOf(0), 0);
        x.makeList();
        x.approveList();
        Checks.same("boxAt of a destroyed box", x.boxAt(0, 2), -1);
        Checks.same("shelfOf a destroyed box", x.shelfOf(3), -1);
        Checks.same("placeOf a destroyed box", x.placeOf(3), -1);
        Checks.same("firstFreeMark", x.firstFreeMark(), 2);
        Checks.same("freePlaces", x.freePlaces(), 3);
        RetentionArchive y = Checks.loaded("archive 2000 3 2;class a 1 1;box 0 1990 at 2 1");
        Checks.same("boxAt", y.boxAt(2, 1), 0);
        Checks.same("shelfOf", y.shelfOf(0), 2);
        Checks.same("placeOf", y.placeOf(0), 1);
    }

    private static void fullArchive() {
        RetentionArchive x = Checks.loaded("archive 2000 1 2;class a 1 1;box 0 2000;box 0 2000");
        Checks.same("freePlaces", x.freePlaces(), 0);
        Checks.same("firstFreeMark", x.firstFreeMark(), -1);
    }

    private static void recordClasses() {
        RetentionArchive x = Checks.loaded("archive 2000 1 1;class abcdef 7 4;class z 1 0 forever");
        String name = "abcdef";
        for (int i = 0; i < 6; i++) {
            Checks.same("classLetter", x.classLetter(0, i), (int) name.charAt(i));
        }
        Checks.same("classLetter", x.classLetter(1, 0), 122);
        for (int index : new int[] {-1, 6, 7, 8, 64, Integer.MIN_VALUE, Integer.MAX_VALUE}) {
            Checks.same("classLetter(0, " + index + ")", x.classLetter(0, index), -1);
        }
        Checks.same("classLetter(1, 1)", x.classLetter(1, 1), -1);
        Checks.same("period", x.period(0), 7);
        Checks.same("period", x.period(1), 1);
        Checks.same("closedPeriod", x.closedPeriod(0), 4);
        Checks.same("closedPeriod", x.closedPeriod(1), 0);
        Checks.same("isPermanent", x.isPermanent(0), false);
        Checks.same("isPermanent", x.isPermanent(1), true);
    }

    private static void boxes() {
        RetentionArchive x = Checks.loaded(TEXT);
        int[] classes = {0, 0, 1, 0};
        int[] closing = {1988, 1995, 1990, 1985};
        int[] due = {1999, 2006, 1996, 1996};
        for (int b = 0; b < 4; b++) {
            Checks.same("classOf", x.classOf(b), classes[b]);
            Checks.same("closingYear", x.closingYear(b), closing[b]);
            Checks.same("dueYear", x.dueYear(b), due[b]);
            Checks.same("isDestroyed", x.isDestroyed(b), false);
            Checks.same("borrower", x.borrower(b), -1);
            Checks.same("loanYear", x.loanYear(b), -1);
            Checks.same("postponement", x.postponement(b), 0);
        }
        x.passYears(1);
        x.request(1, 0);
        Checks.same("borrower", x.borrower(0), 1);
        Checks.same("loanYear", x.loanYear(0), 2001);
        x.makeList();
        x.strike(3, 7);
        Checks.same("postponement", x.postponement(3), 7);
        Checks.same("dueYear", x.dueYear(3), 2003);
        x.giveBack(0);
        x.approveList();
        Checks.same("isDestroyed", x.isDestroyed(0), true);
        Checks.same("dueYear of a destroyed box", x.dueYear(0), 1999);
        Checks.same("closingYear of a destroyed box", x.closingYear(0), 1988);
        Checks.same("classOf a destroyed box", x.classOf(0), 0);
        Checks.same("borrower of a destroyed box", x.borrower(0), -1);
    }

    private static void seals() {
        RetentionArchive x = Checks.loaded(TEXT);
        Checks.same("isSealed", x.isSealed(0), false);
        Checks.same("sealedUntil", x.sealedUntil(0), 0);
        Checks.same("isSealed", x.isSealed(1), true);
        Checks.same("sealedUntil", x.sealedUntil(1), 2004);
        x.passYears(4);
        Checks.same("isSealed in the last year", x.isSealed(1), true);
        x.passYears(1);
        Checks.same("isSealed afterwards", x.isSealed(1), false);
        Checks.same("sealedUntil afterwards", x.sealedUntil(1), 2004);
        x.passYears(5);
        x.makeList();
        x.approveList();
        Checks.same("isDestroyed", x.isDestroyed(1), true);
        Checks.same("sealedUntil of a destroyed box", x.sealedUntil(1), 0);
        Checks.same("isSealed of a destroyed box", x.isSealed(1), false);
    }

    private static void numbersThatDoNotExist() {
        RetentionArchive x = Checks.loaded(TEXT);
        for (int box : new int[] {-1, 4, 24, 99, Integer.MIN_VALUE, Integer.MAX_VALUE}) {
            Checks.refusesIndex(x, "classOf", () -> x.classOf(box));
            Checks.refusesIndex(x, "closingYear", () -> x.closingYear(box));
            Checks.refusesIndex(x, "shelfOf", () -> x.shelfOf(box));
            Checks.refusesIndex(x, "placeOf", () -> x.placeOf(box));
            Checks.refusesIndex(x, "isDestroyed", () -> x.isDestroyed(box));
            Checks.refusesIndex(x, "isSealed", () -> x.isSealed(box));
            Checks.refusesIndex(x, "sealedUntil", () -> x.sealedUntil(box));
            Checks.refusesIndex(x, "borrower", () -> x.borrower(box));
            Checks.refusesIndex(x, "loanYear", () -> x.loanYear(box));
            Checks.refusesIndex(x, "dueYear", () -> x.dueYear(box));
            Checks.refusesIndex(x, "postponement", () -> x.postponement(box));
            Checks.refusesIndex(x, "destructionObstacle", () -> x.destructionObstacle(box));
            Checks.refusesIndex(x, "waitingReaders", () -> x.waitingReaders(box));
            Checks.refusesIndex(x, "nextReader", () -> x.nextReader(box));
        }
        for (int number : new int[] {-1, 2, 8, Integer.MIN_VALUE, Integer.MAX_VALUE}) {
            Checks.refusesIndex(x, "classLetter", () -> x.classLetter(number, 0));
            Checks.refusesIndex(x, "classLetter", () -> x.classLetter(number, -1));
            Checks.refusesIndex(x, "period", () -> x.period(number));
            Checks.refusesIndex(x, "closedPeriod", () -> x.closedPeriod(number));
            Checks.refusesIndex(x, "isPermanent", () -> x.isPermanent(number));
            Checks.refusesIndex(x, "boxAt", () -> x.boxAt(number, 0));
            Checks.refusesIndex(x, "readerLetter", () -> x.readerLetter(number, 0));
            Checks.refusesIndex(x, "loanLimit", () -> x.loanLimit(number));
            Checks.refusesIndex(x, "loansOf", () -> x.loansOf(number));
            Checks.refusesIndex(x, "requestObstacle", () -> x.requestObstacle(number, 0));
        }
        for (int place : new int[] {-1, 3, Integer.MIN_VALUE, Integer.MAX_VALUE}) {
            Checks.refusesIndex(x, "boxAt", () -> x.boxAt(0, place));
            Checks.refusesIndex(x, "boxAt", () -> x.boxAt(1, place));
        }
    }
}
