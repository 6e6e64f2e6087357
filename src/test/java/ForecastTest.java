/** Promises 43 to 48: predictions and averages. */
final class ForecastTest {
    private static final String TEXT = "archive 2000 2 4;class tax 10 0;class maps 5 0 forever;reader ann 1;reader bob 2;"
            + "box 0 1989;box 0 1990;box 1 1980;box 0 1993;box 0 1995";

    private ForecastTest() {
    }

    static void run() {
        destroyable();
        free();
        yearsUntil();
        loansInPredictions();
        queuesGoWithTheirBoxes();
        predictionsChangeNothing();
        nextDue();
        usedShare();
        meanAge();
        wrongCalls();
    }

    private static void destroyable() {
        RetentionArchive x = Checks.loaded(TEXT);
        int[] due = {1, 2, 2, 2, 3, 3, 4};
        for (int years = 0; years < due.length; years++) {
            Checks.same("destroyableAfter(" + years + ")", x.destroyableAfter(years), due[years]);
        }
        Checks.same("destroyableAfter(100)", x.destroyableAfter(100), 4);
        x.seal(0, 2001);
        Checks.same("destroyableAfter(1) with a seal", x.destroyableAfter(1), 1);
        Checks.same("destroyableAfter(2) with a seal", x.destroyableAfter(2), 2);
        x.passYears(2);
        x.makeList();
        x.approveList();
        Checks.same("destroyableAfter(0) without destroyed boxes", x.destroyableAfter(0), 0);
        Checks.same("destroyableAfter(100) without destroyed boxes", x.destroyableAfter(100), 2);
        x.addBox(0, 1900);
        Checks.same("destroyableAfter(0) with a new box", x.destroyableAfter(0), 1);
        x.undo();
        Checks.same("destroyableAfter(0) without it", x.destroyableAfter(0), 0);
    }

    private static void free() {
        RetentionArchive x = Checks.loaded(TEXT);
        int[] due = {3, 5, 5, 5, 6, 6, 7};
        for (int years = 0; years < due.length; years++) {
            Checks.same("freeAfter(" + years + ")", x.freeAfter(years), due[years]);
        }
        Checks.same("freeAfter(100)", x.freeAfter(100), 7);
        x.seal(1, 2002);
        Checks.same("freeAfter(2) with a seal", x.freeAfter(2), 4);
        Checks.same("freeAfter(3) with a seal", x.freeAfter(3), 5);
        x.makeList();
        x.strike(0, 20);
        Checks.same("freeAfter(19) with a strike", x.freeAfter(19), 6);
        Checks.same("freeAfter(20) with a strike", x.freeAfter(20), 7);
        x.seal(0, 9999);
        Checks.same("freeAfter(100) with a long seal", x.freeAfter(100), 6);
    }

    private static void yearsUntil() {
        RetentionArchive x = Checks.loaded(TEXT);
        int[] due = {0, 0, 0, 1, 1, 4, 6, -1};
        for (int count = 1; count <= due.length; count++) {
            Checks.same("yearsUntilFree(" + count + ")", x.yearsUntilFree(count), due[count - 1]);
        }
        Checks.same("yearsUntilFree(48)", x.yearsUntilFree(48), -1);
        RetentionArchive y = Checks.loaded("archive 2000 1 1;class a 50 0;box 0 2000;pass 50;list");
        Checks.same("yearsUntilFree next year", y.yearsUntilFree(1), 1);
        RetentionArchive hundred = Checks.loaded("archive 2000 1 1;class a 39 0;box 0 1960;list;strike 0 20;pass 20;list;"
                + "strike 0 20;pass 20;list;strike 0 20;pass 20;list;strike 0 20;seal 0 2160");
        Checks.same("the year", hundred.year(), 2060);
        Checks.same("yearsUntilFree after the seal", hundred.yearsUntilFree(1), -1);
        hundred.seal(0, 2159);
        Checks.same("yearsUntilFree in the last year", hundred.yearsUntilFree(1), 100);
        Checks.same("freeAfter(100)", hundred.freeAfter(100), 1);
        Checks.same("freeAfter(99)", hundred.freeAfter(99), 0);
        Checks.same("yearsUntilFree of an empty archive", Checks.loaded("archive 2000 6 8").yearsUntilFree(48), 0);
    }

    private static void loansInPredictions() {
        RetentionArchive x = Checks.loaded(TEXT);
        x.request(0, 0);
        x.request(1, 0);
        Checks.same("destroyableAfter(0) with a loan", x.destroyableAfter(0), 0);
        Checks.same("destroyableAfter(1) with a loan", x.destroyableAfter(1), 1);
        Checks.same("destroyableAfter(3) with the next loan", x.destroyableAfter(3), 1);
        Checks.same("destroyableAfter(4) after the loans", x.destroyableAfter(4), 3);
        Checks.same("freeAfter(3) with the next loan", x.freeAfter(3), 4);
        Checks.same("freeAfter(4) after the loans", x.freeAfter(4), 6);
        Checks.same("yearsUntilFree(6) with loans", x.yearsUntilFree(6), 4);
    }

    /** A reader who waits for a destroyed box never gets it, and so has room for another one. */
    private static void queuesGoWithTheirBoxes() {
        RetentionArchive x = Checks.loaded("archive 2000 1 4;class a 10 0;reader r 1;reader s 1;box 0 1990;box 0 1980;"
                + "request 0 1;request 1 1;seal 0 2000");
        Checks.same("destroyableAfter(2)", x.destroyableAfter(2), 1);
        Checks.same("freeAfter(1)", x.freeAfter(1), 3);
        Checks.same("freeAfter(3)", x.freeAfter(3), 3);
        Checks.same("freeAfter(4)", x.freeAfter(4), 4);
    }

    private static void predictionsChangeNothing() {
        RetentionArchive x = Checks.loaded(TEXT);
        x.request(0, 0);
        x.request(1, 0);
        x.makeList();
        x.writeList();
        String before = Checks.picture(x);
        x.destroyableAfter(100);
        x.freeAfter(100);
        x.yearsUntilFree(48);
        x.nextDueBox();
        x.usedShare();
        x.meanAge();
        Checks.same("the archive after predictions", Checks.picture(x), before);
        Checks.same("undoable after predictions", x.undoable(), 3);
    }

    private static void nextDue() {
        RetentionArchive x = Checks.loaded(TEXT + ";box 0 1989");
        Checks.same("nextDueBox on a tie", x.nextDueBox(), 0);
        x.seal(0, 2005);
        x.makeList();
        x.approveList();
        Checks.same("nextDueBox of a sealed box", x.nextDueBox(), 0);
        x.passYears(6);
        x.request(0, 0);
        Checks.same("nextDueBox of a lent box", x.nextDueBox(), 0);
        x.makeList();
        x.strike(0, 10);
        Checks.same("nextDueBox after a strike", x.nextDueBox(), 1);
        x.approveList();
        Checks.same("nextDueBox after an approval", x.nextDueBox(), 0);
        Checks.same("nextDueBox of permanent boxes",
                Checks.loaded("archive 2000 1 1;class a 1 1 forever;box 0 1990").nextDueBox(), -1);
        Checks.same("nextDueBox of no boxes", Checks.loaded("archive 2000 1 1").nextDueBox(), -1);
        Checks.same("nextDueBox of a later number",
                Checks.loaded("archive 2000 1 3;class a 5 1;class b 3 1;box 0 1990;box 1 1991;box 1 1995").nextDueBox(), 1);
    }

    private static void usedShare() {
        RetentionArchive x = Checks.loaded("archive 2000 1 3;class a 1 0;box 0 1999");
        Checks.same("usedShare", x.usedShare(), 1.0f / 3.0f);
        x.addBox(0, 1990);
        Checks.same("usedShare", x.usedShare(), 2.0f / 3.0f);
        x.addBox(0, 2000);
        Checks.same("usedShare of a full archive", x.usedShare(), 1.0f);
        x.makeList();
        x.approveList();
        Checks.same("usedShare after destruction", x.usedShare(), 2.0f / 3.0f);
        Checks.same("usedShare of an empty archive", Checks.loaded("archive 2000 6 8").usedShare(), 0.0f);
        Checks.same("usedShare of 7 of 48",
                Checks.loaded("archive 2000 6 8;class a 1 0;repeat 7(box 0 1999)").usedShare(), 7.0f / 48.0f);
    }

    private static void meanAge() {
        RetentionArchive x = Checks.loaded("archive 2000 1 4;class a 1 0;box 0 1999;box 0 1800;box 0 2000");
        Checks.same("meanAge", x.meanAge(), 201.0 / 3.0);
        x.passYears(1);
        Checks.same("meanAge a year later", x.meanAge(), 204.0 / 3.0);
        x.addBox(0, 2001);
        Checks.same("meanAge with a new box", x.meanAge(), 51.0);
        x.makeList();
        x.approveList();
        Checks.same("meanAge without the destroyed boxes", x.meanAge(), 0.5);
        x.passYears(5);
        x.makeList();
        x.approveList();
        Checks.same("meanAge of destroyed boxes", x.meanAge(), 0.0);
        Checks.same("meanAge of no boxes", Checks.loaded("archive 2000 1 1").meanAge(), 0.0);
        Checks.same("meanAge with a long fraction",
                Checks.loaded("archive 2000 1 3;class a 1 0;box 0 1999;box 0 2000;box 0 2000").meanAge(), 1.0 / 3.0);
    }

    private static void wrongCalls() {
        RetentionArchive x = Checks.loaded(TEXT);
        for (int years : new int[] {-1, 101, Integer.MIN_VALUE, Integer.MAX_VALUE}) {
            Checks.refusesArgument(x, "destroyableAfter(" + years + ")", () -> x.destroyableAfter(years));
            Checks.refusesArgument(x, "freeAfter(" + years + ")", () -> x.freeAfter(years));
        }
        for (int count : new int[] {-1, 0, 49, Integer.MIN_VALUE, Integer.MAX_VALUE}) {
            Checks.refusesArgument(x, "yearsUntilFree(" + count + ")", () -> x.yearsUntilFree(count));
        }
    }
}
