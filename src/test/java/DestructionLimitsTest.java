/** Section 3 at its limits; each test tells the sentence that it is for. */
final class DestructionLimitsTest {
    private static final String HEAD = "archive 2000 2 8;class tax 10 0;class maps 10 0 forever;reader ann 4;reader bob 4;";

    private DestructionLimitsTest() {
    }

    static void run() {
        firstDestroyed();
        secondPermanent();
        thirdNotDue();
        fourthSealed();
        fifthLent();
        noObstacle();
        orderOfTwoObstacles();
        emptyAtFirst();
        makingReplacesTheList();
        boxesOnTheList();
        orderOfTheList();
        lengthOfTheList();
        striking();
        yearsOfAStrike();
        strikesAddUp();
        boxesThatStayAtAnApproval();
        emptyAfterAnApproval();
        destroyedBoxes();
    }

    private static void obstacle(String what, RetentionArchive x, int box, int due) {
        Checks.same(what, x.destructionObstacle(box), due);
    }

    /** "1 it is destroyed already": nothing else can be in the way of such a box. */
    private static void firstDestroyed() {
        RetentionArchive x = Checks.loaded(HEAD + "box 0 1980;list");
        obstacle("on the list", x, 0, 0);
        x.approveList();
        obstacle("destroyed", x, 0, 1);
        x.passYears(50);
        obstacle("destroyed long ago", x, 0, 1);
        x.undo();
        x.undo();
        obstacle("the destruction is undone", x, 0, 0);
    }

    /** "2 its record class is permanent" */
    private static void secondPermanent() {
        RetentionArchive x = Checks.loaded(HEAD + "box 1 1800;box 0 1800");
        obstacle("permanent", x, 0, 2);
        obstacle("not permanent", x, 1, 0);
        x.passYears(50);
        obstacle("permanent after many years", x, 0, 2);
    }

    /** "3 the current year is less than its due year" */
    private static void thirdNotDue() {
        RetentionArchive x = Checks.loaded(HEAD + "box 0 1989;box 0 1990;box 0 1991");
        obstacle("due this year", x, 0, 0);
        obstacle("due next year", x, 1, 3);
        obstacle("due in two years", x, 2, 3);
        x.passYears(1);
        obstacle("due now", x, 1, 0);
        obstacle("due next year", x, 2, 3);
    }

    /** "4 it is sealed" */
    private static void fourthSealed() {
        RetentionArchive x = Checks.loaded(HEAD + "box 0 1980;box 0 1980;seal 0 2000;seal 1 2001");
        obstacle("sealed until this year", x, 0, 4);
        obstacle("sealed until next year", x, 1, 4);
        x.passYears(1);
        obstacle("the seal is over", x, 0, 0);
        obstacle("sealed until this year", x, 1, 4);
    }

    /** "5 it is lent." */
    private static void fifthLent() {
        RetentionArchive x = Checks.loaded(HEAD + "box 0 1980;box 0 1980");
        x.request(0, 0);
        obstacle("lent", x, 0, 5);
        obstacle("not lent", x, 1, 0);
        x.request(1, 0);
        x.giveBack(0);
        obstacle("lent to the next one", x, 0, 5);
        x.giveBack(0);
        obstacle("given back", x, 0, 0);
    }

    private static void noObstacle() {
        RetentionArchive x = Checks.loaded("archive 2000 1 1;class a 1 50;reader r 1;box 0 1998");
        obstacle("not open to readers, and due", x, 0, 0);
    }

    /** "tested in this order": each two that one box can have at once. */
    private static void orderOfTwoObstacles() {
        obstacle("2 and 3", Checks.loaded(HEAD + "box 1 1995"), 0, 2);
        obstacle("2 and 4", Checks.loaded(HEAD + "box 1 1980;seal 0 2000"), 0, 2);
        obstacle("2 and 5", Checks.loaded(HEAD + "box 1 1980;request 0 0"), 0, 2);
        obstacle("3 and 4", Checks.loaded(HEAD + "box 0 1995;seal 0 2000"), 0, 3);
        obstacle("3 and 5", Checks.loaded(HEAD + "box 0 1995;request 0 0"), 0, 3);
        obstacle("4 and 5", Checks.loaded(HEAD + "box 0 1980;request 0 0;seal 0 2000"), 0, 4);
        obstacle("2 to 5", Checks.loaded(HEAD + "box 1 1995;request 0 0;seal 0 2000"), 0, 2);
        obstacle("3 to 5", Checks.loaded(HEAD + "box 0 1995;request 0 0;seal 0 2000"), 0, 3);
    }

    /** "There is one destruction list, which is empty at first." */
    private static void emptyAtFirst() {
        RetentionArchive x = Checks.loaded(HEAD + "box 0 1980");
        Checks.same("listLength", x.listLength(), 0);
        Checks.throwsIndex("listedBox(0)", () -> x.listedBox(0));
        Checks.same("approveList of the empty list", x.approveList(), 0);
        Checks.same("destroyedCount", x.destroyedCount(), 0);
    }

    /** "To make a list means to replace the list" */
    private static void makingReplacesTheList() {
        RetentionArchive x = Checks.loaded(HEAD + "box 0 1980;box 0 1981;list");
        Checks.same("makeList once more", x.makeList(), 2);
        x.seal(0, 2000);
        Checks.same("makeList of fewer boxes", x.makeList(), 1);
        Checks.same("listedBox(0)", x.listedBox(0), 1);
        Checks.throwsIndex("listedBox(1)", () -> x.listedBox(1));
        x.seal(1, 2000);
        Checks.same("makeList of no boxes", x.makeList(), 0);
        Checks.throwsIndex("listedBox(0)", () -> x.listedBox(0));
        x.passYears(1);
        Checks.same("makeList of more boxes", x.makeList(), 2);
    }

    /** "all boxes to which none of the obstacles 1 to 4 applies" */
    private static void boxesOnTheList() {
        RetentionArchive x = Checks.loaded(HEAD + "box 0 1980;list;approve;box 1 1980;box 0 1990;box 0 1989;box 0 1985;"
                + "box 0 1984;box 0 1983;seal 4 2000;request 0 5;request 0 6;seal 6 2000");
        int[] obstacles = {1, 2, 3, 0, 4, 5, 4};
        for (int box = 0; box < 7; box++) {
            obstacle("box " + box, x, box, obstacles[box]);
        }
        Checks.same("makeList", x.makeList(), 2);
        Checks.same("the lent box is on the list", x.listedBox(0), 5);
        Checks.same("the box without an obstacle is on the list", x.listedBox(1), 3);
    }

    /** "in ascending order of their due years, with the smaller number first on a tie." */
    private static void orderOfTheList() {
        RetentionArchive falling = Checks.loaded(HEAD + "box 0 1983;box 0 1982;box 0 1981;box 0 1980;list");
        RetentionArchive rising = Checks.loaded(HEAD + "box 0 1980;box 0 1981;box 0 1982;box 0 1983;list");
        RetentionArchive same = Checks.loaded(HEAD + "box 0 1980;box 0 1980;box 0 1980;box 0 1980;list");
        for (int i = 0; i < 4; i++) {
            Checks.same("falling due years", falling.listedBox(i), 3 - i);
            Checks.same("rising due years", rising.listedBox(i), i);
            Checks.same("the same due years", same.listedBox(i), i);
        }
        RetentionArchive x = Checks.loaded(HEAD + "class law 5 0;box 0 1985;box 2 1990;box 2 1989;box 0 1984;list;strike 2 1;"
                + "list");
        int[] order = {3, 0, 1, 2};
        for (int i = 0; i < 4; i++) {
            Checks.same("ties by period and postponement", x.listedBox(i), order[i]);
        }
    }

    private static void lengthOfTheList() {
        String text = "archive 2000 3 8;class a 1 0;repeat 8(box 0 1980;box 0 1981;box 0 1982)";
        RetentionArchive x = Checks.loaded(text);
        Checks.same("makeList of all boxes", x.makeList(), 24);
        for (int i = 0; i < 24; i++) {
            Checks.same("listedBox(" + i + ")", x.listedBox(i), i / 8 + i % 8 * 3);
        }
        Checks.throwsIndex("listedBox(24)", () -> x.listedBox(24));
        Checks.throwsIndex("listedBox(-1)", () -> x.listedBox(-1));
        Checks.same("approveList of all boxes", x.approveList(), 24);
        Checks.same("destroyedCount", x.destroyedCount(), 24);
        Checks.same("freePlaces", x.freePlaces(), 24);
        Checks.same("makeList of destroyed boxes", x.makeList(), 0);
    }

    /** "To strike a box from the list means to remove it from the list": the first, one between, the last, the only. */
    private static void striking() {
        int[][] left = {{1, 2}, {0, 2}, {0, 1}};
        for (int box = 0; box < 3; box++) {
            RetentionArchive x = Checks.loaded(HEAD + "box 0 1980;box 0 1981;box 0 1982;list");
            int struck = box;
            x.strike(box, 1);
            Checks.same("listLength", x.listLength(), 2);
            Checks.same("listedBox(0)", x.listedBox(0), left[box][0]);
            Checks.same("listedBox(1)", x.listedBox(1), left[box][1]);
            Checks.throwsIndex("listedBox(2)", () -> x.listedBox(2));
            Checks.refusesArgument(x, "strike of a box that was struck", () -> x.strike(struck, 1));
        }
        RetentionArchive only = Checks.loaded(HEAD + "box 0 1980;list");
        only.strike(0, 1);
        Checks.same("listLength after the only box", only.listLength(), 0);
        RetentionArchive x = Checks.loaded(HEAD + "box 0 1980;box 0 1981;list;seal 0 2000;request 0 1");
        Checks.same("strike of a box that was sealed since", x.strike(0, 2), 1993);
        Checks.same("strike of a box that was lent since", x.strike(1, 2), 1994);
    }

    /** "to increase its postponement by some years": 1 to 20. */
    private static void yearsOfAStrike() {
        RetentionArchive x = Checks.loaded(HEAD + "box 0 1980;box 0 1980;list");
        Checks.refusesArgument(x, "strike by 0", () -> x.strike(0, 0));
        Checks.refusesArgument(x, "strike by 21", () -> x.strike(0, 21));
        Checks.same("strike by 1", x.strike(0, 1), 1992);
        Checks.same("postponement", x.postponement(0), 1);
        Checks.same("strike by 20", x.strike(1, 20), 2011);
        Checks.same("postponement", x.postponement(1), 20);
    }

    private static void strikesAddUp() {
        RetentionArchive x = Checks.loaded("archive 2500 1 1;class a 1 0;box 0 1800");
        for (int strikes = 1; strikes <= 34; strikes++) {
            x.makeList();
            Checks.same("strike", x.strike(0, 20), 1802 + 20 * strikes);
            Checks.same("postponement", x.postponement(0), 20 * strikes);
        }
        x.makeList();
        Checks.same("the last strike", x.strike(0, 19), 2501);
        obstacle("due next year", x, 0, 3);
        Checks.same("makeList", x.makeList(), 0);
        x.passYears(1);
        Checks.same("makeList in the due year", x.makeList(), 1);
    }

    /** "for each box of the list, in order, if there is no obstacle, the box is destroyed; the others stay" */
    private static void boxesThatStayAtAnApproval() {
        RetentionArchive x = Checks.loaded(HEAD + "box 0 1980;box 0 1981;box 0 1982;box 0 1983;box 0 1984");
        x.request(0, 0);
        x.makeList();
        x.seal(1, 2000);
        x.request(0, 2);
        x.giveBack(2);
        x.request(1, 3);
        x.addBox(0, 1970);
        String[] before = new String[6];
        for (int box = 0; box < 6; box++) {
            before[box] = Checks.box(x, box);
        }
        Checks.same("approveList", x.approveList(), 2);
        Checks.same("lent ahead of the list", Checks.box(x, 0), before[0]);
        Checks.same("sealed since", Checks.box(x, 1), before[1]);
        Checks.same("lent and given back", x.isDestroyed(2), true);
        Checks.same("lent since", Checks.box(x, 3), before[3]);
        Checks.same("without an obstacle", x.isDestroyed(4), true);
        Checks.same("due, and not on the list", Checks.box(x, 5), before[5]);
    }

    /** "After that the list is empty." */
    private static void emptyAfterAnApproval() {
        RetentionArchive x = Checks.loaded(HEAD + "box 0 1980;box 0 1981;list;seal 0 2000;seal 1 2000");
        Checks.same("approveList of sealed boxes", x.approveList(), 0);
        Checks.same("listLength", x.listLength(), 0);
        Checks.throwsIndex("listedBox(0)", () -> x.listedBox(0));
        x.passYears(1);
        Checks.same("approveList of the list that was emptied", x.approveList(), 0);
        Checks.same("destroyedCount", x.destroyedCount(), 0);
    }

    /** "A destroyed box has no shelf mark, no seal, and no waiting readers." */
    private static void destroyedBoxes() {
        RetentionArchive x = Checks.loaded("archive 2000 1 4;class a 10 0;reader r 1;reader s 1;reader t 1;box 0 1995;"
                + "box 0 1995;box 0 1995;box 0 1980;seal 3 2000;pass 1;request 0 0;request 1 1;request 2 2;request 0 3;"
                + "request 1 3;request 2 3");
        Checks.same("before", Checks.box(x, 3), "box 0 1980 at 0,3 2000 lent -1/-1 due 1991/0 obstacle 0 waiting 3/0");
        x.makeList();
        Checks.same("approveList", x.approveList(), 1);
        String destroyed = "box 0 1980 at -1,-1 destroyed 0 lent -1/-1 due 1991/0 obstacle 1 waiting 0/-1";
        Checks.same("a box whose seal was over, with a full queue", Checks.box(x, 3), destroyed);
        Checks.same("boxAt its place", x.boxAt(0, 3), -1);
        x.giveBack(0);
        x.passYears(1);
        Checks.same("nobody is served with it", Checks.box(x, 3), destroyed);
        Checks.same("loansOf a reader who waited for it", x.loansOf(0), 0);
    }
}
