/** Promises 30, 31, 37 to 42, 53, 57 and 58: readers, requests, loans, queues, and the passing of years. */
final class LoanTest {
    private static final String TEXT = "archive 2000 2 4;class tax 10 5;class maps 5 0 forever;reader ann 1;reader bobby 2;"
            + "reader c 4;reader dora 1;reader abcdef 3;box 0 1990;box 0 1991;box 0 1994;box 0 1995;box 1 1999;box 1 2000";

    private LoanTest() {
    }

    static void run() {
        readers();
        obstacles();
        orderOfTheObstacles();
        requests();
        requestsAheadOfTheQueue();
        givingBack();
        givingBackASealedBox();
        limitsAreKept();
        loansEndAfterTwoYears();
        orderOfTheBoxesInAYear();
        queuesAreServedWhenASealIsOver();
        manyYears();
        fullArchive();
        wrongCalls();
    }

    private static void readers() {
        RetentionArchive x = Checks.loaded(TEXT);
        Checks.same("name", Checks.name(9, i -> x.readerLetter(1, i)), "bobby");
        Checks.same("name", Checks.name(9, i -> x.readerLetter(4, i)), "abcdef");
        for (int index : new int[] {-1, 6, 7, 8, 64, Integer.MIN_VALUE, Integer.MAX_VALUE}) {
            Checks.same("readerLetter(4, " + index + ")", x.readerLetter(4, index), -1);
        }
        Checks.same("readerLetter(0, 3)", x.readerLetter(0, 3), -1);
        int[] limits = {1, 2, 4, 1, 3};
        for (int r = 0; r < 5; r++) {
            Checks.same("loanLimit", x.loanLimit(r), limits[r]);
            Checks.same("loansOf", x.loansOf(r), 0);
        }
        x.request(1, 0);
        x.request(1, 1);
        x.request(1, 2);
        Checks.same("loansOf", x.loansOf(1), 2);
        Checks.same("loansOf", x.loansOf(0), 0);
        for (int reader : new int[] {-1, 5, 6, Integer.MIN_VALUE, Integer.MAX_VALUE}) {
            Checks.refusesIndex(x, "readerLetter", () -> x.readerLetter(reader, 0));
            Checks.refusesIndex(x, "readerLetter", () -> x.readerLetter(reader, 9));
            Checks.refusesIndex(x, "loanLimit", () -> x.loanLimit(reader));
            Checks.refusesIndex(x, "loansOf", () -> x.loansOf(reader));
            Checks.refusesIndex(x, "requestObstacle", () -> x.requestObstacle(reader, 0));
        }
        for (int box : new int[] {-1, 6, 24, Integer.MIN_VALUE, Integer.MAX_VALUE}) {
            Checks.refusesIndex(x, "requestObstacle", () -> x.requestObstacle(0, box));
        }
    }

    private static void obstacles() {
        RetentionArchive x = Checks.loaded(TEXT);
        Checks.same("open since this year", x.requestObstacle(0, 2), 0);
        Checks.same("open from next year on", x.requestObstacle(0, 3), 3);
        Checks.same("without a closed period, closed last year", x.requestObstacle(0, 4), 0);
        Checks.same("without a closed period, closed this year", x.requestObstacle(0, 5), 3);
        x.seal(1, 2000);
        Checks.same("sealed", x.requestObstacle(0, 1), 2);
        x.request(0, 0);
        Checks.same("has the box", x.requestObstacle(0, 0), 4);
        x.request(1, 0);
        Checks.same("waits for the box", x.requestObstacle(1, 0), 4);
        x.request(2, 0);
        Checks.same("two wait", x.requestObstacle(4, 0), 0);
        x.request(3, 0);
        Checks.same("three wait", x.requestObstacle(4, 0), 5);
        Checks.same("the last one waits", x.requestObstacle(3, 0), 4);
        x.passYears(1);
        Checks.same("seal over", x.requestObstacle(0, 1), 0);
        x.makeList();
        x.approveList();
        Checks.same("a lent box is not destroyed", x.requestObstacle(0, 0), 4);
    }

    private static void orderOfTheObstacles() {
        String text = "archive 2000 1 3;class a 10 20;class b 1 0;reader r 1;reader s 1;reader t 1;reader u 1;reader v 1;"
                + "box 0 1989;box 1 1990;box 1 1980;";
        RetentionArchive x = Checks.loaded(text + "seal 0 2001;list;approve;pass 1");
        Checks.same("sealed and not open", x.requestObstacle(0, 0), 2);
        Checks.same("destroyed", x.requestObstacle(0, 1), 1);
        x.passYears(1);
        Checks.same("not open", x.requestObstacle(0, 0), 3);
        RetentionArchive y = Checks.loaded(text + "request 0 1;request 1 1;request 2 1;request 3 1;seal 1 2000");
        Checks.same("sealed, and has the box", y.requestObstacle(0, 1), 2);
        Checks.same("sealed, and the queue is full", y.requestObstacle(4, 1), 2);
        y.passYears(1);
        Checks.same("waits, and the queue is full", y.requestObstacle(1, 1), 4);
        Checks.same("has the box, and the queue is full", y.requestObstacle(0, 1), 4);
        Checks.same("the queue is full", y.requestObstacle(4, 1), 5);
        RetentionArchive z = Checks.loaded("archive 2000 1 1;class a 1 50;reader r 1;box 0 1990;list;approve");
        Checks.same("destroyed and not open", z.requestObstacle(0, 0), 1);
    }

    private static void requests() {
        RetentionArchive x = Checks.loaded(TEXT);
        Checks.same("request", x.request(0, 0), true);
        Checks.same("borrower", x.borrower(0), 0);
        Checks.same("loanYear", x.loanYear(0), 2000);
        Checks.same("loansOf", x.loansOf(0), 1);
        Checks.same("request at the limit", x.request(0, 1), false);
        Checks.same("borrower", x.borrower(1), -1);
        Checks.same("loanYear", x.loanYear(1), -1);
        Checks.same("nextReader", x.nextReader(1), 0);
        Checks.same("request of a lent box", x.request(1, 0), false);
        Checks.same("request of a lent box", x.request(2, 0), false);
        Checks.same("waitingReaders", x.waitingReaders(0), 2);
        Checks.same("nextReader", x.nextReader(0), 1);
        Checks.same("waitingReaders of another box", x.waitingReaders(2), 0);
        Checks.same("nextReader of another box", x.nextReader(2), -1);
        Checks.refusesArgument(x, "request of one's own box", () -> x.request(0, 0));
        Checks.refusesArgument(x, "request of a reader who waits", () -> x.request(2, 0));
        Checks.refusesArgument(x, "request of a box that is not open", () -> x.request(0, 3));
    }

    private static void requestsAheadOfTheQueue() {
        RetentionArchive x = Checks.loaded(TEXT);
        x.request(0, 0);
        x.request(0, 1);
        Checks.same("request ahead of a reader who waits", x.request(1, 1), true);
        Checks.same("borrower", x.borrower(1), 1);
        Checks.same("waitingReaders", x.waitingReaders(1), 1);
        Checks.same("nextReader", x.nextReader(1), 0);
    }

    private static void givingBack() {
        RetentionArchive x = Checks.loaded(TEXT);
        x.request(0, 0);
        x.request(0, 1);
        x.request(1, 0);
        x.request(2, 0);
        Checks.same("giveBack", x.giveBack(0), 1);
        Checks.same("borrower", x.borrower(0), 1);
        Checks.same("waitingReaders", x.waitingReaders(0), 1);
        Checks.same("nextReader", x.nextReader(0), 2);
        Checks.same("the other box is not served", x.borrower(1), -1);
        Checks.same("nextReader of the other box", x.nextReader(1), 0);
        Checks.same("giveBack", x.giveBack(0), 2);
        Checks.same("waitingReaders", x.waitingReaders(0), 0);
        Checks.same("nextReader", x.nextReader(0), -1);
        Checks.same("giveBack", x.giveBack(0), -1);
        Checks.same("loanYear", x.loanYear(0), -1);
        Checks.refusesArgument(x, "giveBack of a box that is not lent", () -> x.giveBack(0));
        x.passYears(1);
        Checks.same("a year serves the other box", x.borrower(1), 0);
        Checks.same("loanYear", x.loanYear(1), 2001);
    }

    private static void givingBackASealedBox() {
        RetentionArchive x = Checks.loaded(TEXT);
        x.request(0, 0);
        x.request(1, 0);
        x.seal(0, 2000);
        Checks.same("a sealed box stays lent", x.borrower(0), 0);
        Checks.same("giveBack of a sealed box", x.giveBack(0), -1);
        Checks.same("waitingReaders", x.waitingReaders(0), 1);
    }

    private static void limitsAreKept() {
        RetentionArchive x = Checks.loaded(TEXT);
        x.request(1, 0);
        x.request(3, 1);
        x.request(3, 0);
        x.request(0, 0);
        x.request(2, 0);
        Checks.same("the reader at the limit is passed over", x.giveBack(0), 0);
        Checks.same("waitingReaders", x.waitingReaders(0), 2);
        Checks.same("the order remains", x.nextReader(0), 3);
        Checks.same("the next one", x.giveBack(0), 2);
        Checks.same("the order remains", x.nextReader(0), 3);
        Checks.same("nobody can have it", x.giveBack(0), -1);
        Checks.same("waitingReaders", x.waitingReaders(0), 1);
        x.giveBack(1);
        Checks.same("another box's return does not serve this one", x.borrower(0), -1);
        Checks.same("inconsistencies", x.inconsistencies(), 0);
    }

    private static void loansEndAfterTwoYears() {
        RetentionArchive x = Checks.loaded(TEXT);
        x.request(0, 0);
        x.request(1, 0);
        Checks.same("passYears(1)", x.passYears(1), 1);
        Checks.same("borrower after a year", x.borrower(0), 0);
        x.request(2, 1);
        Checks.same("passYears(1)", x.passYears(1), 2);
        Checks.same("borrower after two years", x.borrower(0), 1);
        Checks.same("loanYear", x.loanYear(0), 2002);
        Checks.same("the younger loan", x.borrower(1), 2);
        Checks.same("passYears(1)", x.passYears(1), 1);
        Checks.same("the younger loan is over", x.borrower(1), -1);
        Checks.same("passYears(1)", x.passYears(1), 0);
        Checks.same("loanYear", x.loanYear(0), -1);
    }

    /** First all old loans end, and then the boxes are served in the order of the numbers. */
    private static void orderOfTheBoxesInAYear() {
        RetentionArchive x = Checks.loaded(TEXT);
        x.request(0, 2);
        x.request(0, 0);
        x.request(0, 1);
        x.passYears(1);
        Checks.same("still the first loan", x.borrower(2), 0);
        x.passYears(1);
        Checks.same("the smallest number is served", x.borrower(0), 0);
        Checks.same("the other one waits", x.borrower(1), -1);
        Checks.same("nextReader", x.nextReader(1), 0);
        Checks.same("the box of the first loan", x.borrower(2), -1);
        x.passYears(2);
        Checks.same("the other one is served", x.borrower(1), 0);
        Checks.same("loanYear", x.loanYear(1), 2004);
    }

    private static void queuesAreServedWhenASealIsOver() {
        RetentionArchive x = Checks.loaded(TEXT);
        x.request(0, 0);
        x.request(1, 0);
        x.seal(0, 2003);
        x.passYears(3);
        Checks.same("sealed, and not lent any more", x.borrower(0), -1);
        Checks.same("waitingReaders", x.waitingReaders(0), 1);
        x.passYears(1);
        Checks.same("served after the seal", x.borrower(0), 1);
        Checks.same("loanYear", x.loanYear(0), 2004);
    }

    private static void manyYears() {
        RetentionArchive x = Checks.loaded(TEXT);
        x.request(0, 0);
        x.request(1, 0);
        x.request(2, 0);
        x.request(3, 0);
        Checks.same("passYears(5)", x.passYears(5), 1);
        Checks.same("year", x.year(), 2005);
        Checks.same("borrower", x.borrower(0), 2);
        Checks.same("loanYear", x.loanYear(0), 2004);
        Checks.same("passYears(50)", x.passYears(50), 0);
        Checks.same("year", x.year(), 2055);
    }

    private static void fullArchive() {
        RetentionArchive x = Checks.loaded("archive 2000 3 8;class a 40 0;reader a 1;reader b 1;reader c 1;reader d 1;"
                + "reader e 1;reader f 4;repeat 8(box 0 1990;box 0 1990;box 0 1990)");
        for (int box = 20; box < 24; box++) {
            x.request(5, box);
            x.request(0, box);
            x.request(1, box);
            x.request(2, box);
        }
        Checks.same("loansOf", x.loansOf(5), 4);
        Checks.same("giveBack of the last box", x.giveBack(23), 0);
        Checks.same("nextReader of the last box", x.nextReader(23), 1);
        String before = Checks.state(x);
        Checks.same("passYears(2)", x.passYears(2), 3);
        Checks.same("the first box is served first", x.borrower(20), 0);
        Checks.same("the second box", x.borrower(21), 1);
        Checks.same("the third box", x.borrower(22), 2);
        Checks.same("the last box", x.borrower(23), -1);
        Checks.same("nextReader of the last box", x.nextReader(23), 1);
        Checks.same("nextReader of the second box", x.nextReader(21), 0);
        Checks.same("waitingReaders of the second box", x.waitingReaders(21), 2);
        Checks.same("destroyableAfter(100)", x.destroyableAfter(100), 24);
        Checks.same("freeAfter(100)", x.freeAfter(100), 24);
        Checks.same("inconsistencies", x.inconsistencies(), 0);
        x.undo();
        Checks.same("the state after undo", Checks.state(x), before);
    }

    private static void wrongCalls() {
        RetentionArchive x = Checks.loaded(TEXT);
        for (int years : new int[] {-1, 0, 51, Integer.MIN_VALUE, Integer.MAX_VALUE}) {
            Checks.refusesArgument(x, "passYears(" + years + ")", () -> x.passYears(years));
        }
        for (int number : new int[] {-1, 6, 24, Integer.MIN_VALUE, Integer.MAX_VALUE}) {
            Checks.refusesIndex(x, "request(" + number + ", 0)", () -> x.request(number, 0));
            Checks.refusesIndex(x, "request(0, " + number + ")", () -> x.request(0, number));
            Checks.refusesIndex(x, "giveBack(" + number + ")", () -> x.giveBack(number));
        }
        Checks.refusesIndex(x, "request(5, 3)", () -> x.request(5, 3));
        x.seal(0, 2000);
        Checks.refusesArgument(x, "request of a sealed box", () -> x.request(0, 0));
        x.request(0, 1);
        x.request(1, 1);
        x.request(2, 1);
        x.request(3, 1);
        Checks.refusesArgument(x, "request with a full queue", () -> x.request(4, 1));
        x.passYears(10);
        x.makeList();
        x.approveList();
        Checks.refusesArgument(x, "request of a destroyed box", () -> x.request(0, 0));
        Checks.refusesArgument(x, "giveBack of a destroyed box", () -> x.giveBack(0));
    }
}
