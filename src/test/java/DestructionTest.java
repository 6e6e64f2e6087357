/** Promises 34 to 36 and 59 to 61: obstacles to destruction, and the destruction list. */
final class DestructionTest {
    private static final String TEXT = "archive 2000 2 4;class tax 10 0;class maps 5 0 forever;reader ann 2;reader bob 2;"
            + "box 0 1989;box 0 1990;box 1 1980;box 0 1970;box 0 1988;box 0 1980";

    private DestructionTest() {
    }

    static void run() {
        obstacles();
        orderOfTheObstacles();
        lists();
        listDoesNotChangeByItself();
        strikes();
        approvals();
        queuesOfDestroyedBoxes();
        fullList();
        wrongCalls();
    }

    private static void obstacles() {
        RetentionArchive x = Checks.loaded(TEXT);
        Checks.same("due this year", x.destructionObstacle(0), 0);
        Checks.same("due next year", x.destructionObstacle(1), 3);
        Checks.same("permanent", x.destructionObstacle(2), 2);
        x.seal(3, 2000);
        Checks.same("sealed", x.destructionObstacle(3), 4);
        x.request(0, 4);
        Checks.same("lent", x.destructionObstacle(4), 5);
        x.makeList();
        x.approveList();
        Checks.same("destroyed", x.destructionObstacle(0), 1);
        x.passYears(1);
        Checks.same("due now", x.destructionObstacle(1), 0);
        Checks.same("seal over", x.destructionObstacle(3), 0);
    }

    private static void orderOfTheObstacles() {
        RetentionArchive x = Checks.loaded("archive 2000 2 4;class tax 10 0;class maps 50 0 forever;reader ann 4;"
                + "box 1 1990;box 0 1995;box 0 1980;request 0 0;request 0 1;request 0 2;seal 0 2010;seal 1 2010;"
                + "seal 2 2010");
        Checks.same("permanent, not due, sealed and lent", x.destructionObstacle(0), 2);
        Checks.same("not due, sealed and lent", x.destructionObstacle(1), 3);
        Checks.same("sealed and lent", x.destructionObstacle(2), 4);
        RetentionArchive y = Checks.loaded("archive 2000 1 1;class a 1 0;box 0 1998;list;approve");
        Checks.same("destroyed", y.destructionObstacle(0), 1);
    }

    private static void lists() {
        RetentionArchive x = Checks.loaded(TEXT);
        Checks.same("listLength of a new archive", x.listLength(), 0);
        x.request(0, 3);
        Checks.same("makeList", x.makeList(), 4);
        Checks.same("listLength", x.listLength(), 4);
        int[] due = {3, 5, 4, 0};
        for (int i = 0; i < 4; i++) {
            Checks.same("listedBox(" + i + ")", x.listedBox(i), due[i]);
        }
        x.seal(4, 2005);
        Checks.same("makeList without a sealed box", x.makeList(), 3);
        Checks.same("listedBox(2)", x.listedBox(2), 0);
        RetentionArchive ties = Checks.loaded("archive 2000 2 4;class a 5 0;class b 3 0;box 0 1990;box 1 1992;box 0 1980;"
                + "box 1 1992;box 0 1990;box 1 1982");
        Checks.same("makeList with ties", ties.makeList(), 6);
        int[] order = {2, 5, 0, 1, 3, 4};
        for (int i = 0; i < 6; i++) {
            Checks.same("listedBox(" + i + ") with ties", ties.listedBox(i), order[i]);
        }
        for (int position : new int[] {-1, 6, 24, Integer.MIN_VALUE, Integer.MAX_VALUE}) {
            Checks.refusesIndex(ties, "listedBox(" + position + ")", () -> ties.listedBox(position));
        }
        Checks.same("makeList of nothing", Checks.loaded("archive 2000 1 1").makeList(), 0);
    }

    private static void listDoesNotChangeByItself() {
        RetentionArchive x = Checks.loaded(TEXT);
        x.makeList();
        x.passYears(5);
        x.seal(3, 2010);
        x.request(0, 5);
        x.addBox(0, 1980);
        x.moveBox(4, 1, 3);
        Checks.same("listLength", x.listLength(), 4);
        Checks.same("listedBox(0)", x.listedBox(0), 3);
        Checks.same("makeList", x.makeList(), 5);
    }

    private static void strikes() {
        RetentionArchive x = Checks.loaded(TEXT);
        x.makeList();
        Checks.same("strike", x.strike(5, 20), 2011);
        Checks.same("postponement", x.postponement(5), 20);
        Checks.same("listLength", x.listLength(), 3);
        Checks.same("listedBox(0)", x.listedBox(0), 3);
        Checks.same("listedBox(1)", x.listedBox(1), 4);
        Checks.same("listedBox(2)", x.listedBox(2), 0);
        Checks.same("destructionObstacle", x.destructionObstacle(5), 3);
        Checks.same("strike of the last one", x.strike(0, 1), 2001);
        Checks.same("strike of the first one", x.strike(3, 2), 1983);
        Checks.same("listedBox(0)", x.listedBox(0), 4);
        Checks.same("makeList", x.makeList(), 2);
        Checks.same("a second strike", x.strike(3, 3), 1986);
        Checks.same("postponement", x.postponement(3), 5);
        Checks.same("strike of the only one", x.strike(4, 1), 2000);
        Checks.same("listLength", x.listLength(), 0);
    }

    private static void approvals() {
        RetentionArchive x = Checks.loaded(TEXT);
        Checks.same("approveList of an empty list", x.approveList(), 0);
        x.request(0, 3);
        x.request(1, 3);
        x.request(0, 4);
        x.request(1, 0);
        x.giveBack(0);
        x.makeList();
        x.seal(5, 2001);
        Checks.same("approveList", x.approveList(), 1);
        Checks.same("listLength", x.listLength(), 0);
        Checks.same("the box without an obstacle", Checks.box(x, 0),
                "box 0 1989 at -1,-1 destroyed 0 lent -1/-1 due 2000/0 obstacle 1 waiting 0/-1");
        Checks.same("the lent box", Checks.box(x, 3),
                "box 0 1970 at 0,3 0 lent 0/2000 due 1981/0 obstacle 5 waiting 1/1");
        Checks.same("the sealed box", Checks.box(x, 5),
                "box 0 1980 at 1,1 sealed 2001 lent -1/-1 due 1991/0 obstacle 4 waiting 0/-1");
        Checks.same("destroyedCount", x.destroyedCount(), 1);
    }

    private static void queuesOfDestroyedBoxes() {
        RetentionArchive x = Checks.loaded("archive 2000 1 3;class a 5 0;reader r 1;reader s 1;box 0 1980;box 0 1981;"
                + "request 0 0;request 0 1;seal 1 2000;list");
        Checks.same("waitingReaders in front of the destruction", x.waitingReaders(1), 1);
        Checks.same("makeList without the sealed box", x.listLength(), 1);
        RetentionArchive y = Checks.loaded("archive 2000 1 3;class a 5 0;reader r 1;reader s 1;box 0 1980;box 0 1981;"
                + "request 0 0;request 0 1;list");
        Checks.same("approveList", y.approveList(), 1);
        Checks.same("the destroyed box", Checks.box(y, 1),
                "box 0 1981 at -1,-1 destroyed 0 lent -1/-1 due 1987/0 obstacle 1 waiting 0/-1");
        Checks.same("giveBack serves no destroyed box", y.giveBack(0), -1);
        Checks.same("a year serves no destroyed box", y.passYears(1), 0);
        y.undo();
        y.undo();
        y.undo();
        Checks.same("waitingReaders after undo", y.waitingReaders(1), 1);
        Checks.same("nextReader after undo", y.nextReader(1), 0);
    }

    private static void fullList() {
        RetentionArchive x = Checks.loaded("archive 2000 6 8;class a 1 0;repeat 8(box 0 1990;box 0 1990;box 0 1990);list");
        Checks.same("listLength", x.listLength(), 24);
        Checks.same("strike in the middle", x.strike(12, 3), 1995);
        for (int i = 0; i < 23; i++) {
            Checks.same("listedBox(" + i + ")", x.listedBox(i), i < 12 ? i : i + 1);
        }
        Checks.same("strike of the last one", x.strike(23, 1), 1993);
        Checks.same("approveList", x.approveList(), 22);
        Checks.same("freePlaces", x.freePlaces(), 46);
        Checks.same("inconsistencies", x.inconsistencies(), 0);
    }

    private static void wrongCalls() {
        RetentionArchive x = Checks.loaded(TEXT);
        x.makeList();
        for (int box : new int[] {-1, 6, 24, Integer.MIN_VALUE, Integer.MAX_VALUE}) {
            Checks.refusesIndex(x, "strike(" + box + ", 1)", () -> x.strike(box, 1));
            Checks.refusesIndex(x, "strike(" + box + ", 0)", () -> x.strike(box, 0));
        }
        for (int years : new int[] {-1, 0, 21, Integer.MIN_VALUE, Integer.MAX_VALUE}) {
            Checks.refusesArgument(x, "strike(0, " + years + ")", () -> x.strike(0, years));
        }
        Checks.refusesArgument(x, "strike of a box that is not due", () -> x.strike(1, 1));
        Checks.refusesArgument(x, "strike of a permanent box", () -> x.strike(2, 1));
        x.approveList();
        Checks.refusesArgument(x, "strike of a destroyed box", () -> x.strike(0, 1));
    }
}
