/** Sections 1 and 2 at their limits; each test tells the sentence that it is for. */
final class ClassAndBoxLimitsTest {
    private static final String HEAD = "archive 2000 2 3;class tax 10 2;";
    private static final String ROOM = "archive 2000 6 8;class tax 10 2;";
    private static final String TWENTY_FOUR = "repeat 8(box 0 1980;box 0 1980;box 0 1980)";

    private ClassAndBoxLimitsTest() {
    }

    static void run() {
        numberOfClasses();
        namesOfClasses();
        lettersOfClasses();
        periods();
        closedPeriods();
        permanentOrNot();
        classesOfTheSameName();
        numberOfBoxes();
        closingYears();
        newBoxes();
        lastYearOfASeal();
        dueYears();
        openToReaders();
        numberOfShelves();
        numberOfPlaces();
        numbersOfMarks();
        marksOfBoxes();
        freePlaces();
        firstFreePlace();
    }

    private static String classes(int count) {
        StringBuilder text = new StringBuilder("archive 2000 1 1");
        for (int i = 0; i < count; i++) {
            text.append(";class ").append((char) ('a' + i)).append(' ').append(i + 1).append(' ').append(i);
        }
        return text.toString();
    }

    /** "There are 0 to 8 record classes, numbered from 0." */
    private static void numberOfClasses() {
        for (int count = 0; count <= 8; count++) {
            RetentionArchive x = Checks.loaded(classes(count));
            int number = count;
            Checks.same("classCount", x.classCount(), count);
            Checks.throwsIndex("period(" + count + ") of " + count, () -> x.period(number));
            Checks.throwsIndex("period(-1) of " + count, () -> x.period(-1));
            for (int c = 0; c < count; c++) {
                Checks.same("period(" + c + ") of " + count, x.period(c), c + 1);
            }
        }
        Checks.wrong(4, classes(8) + ";^class z 1 1");
    }

    /** "A record class has a name of 1 to 6 letters" */
    private static void namesOfClasses() {
        Checks.wrong(1, HEAD + "class ^1 1");
        for (String name : new String[] {"a", "ab", "abc", "abcd", "abcde", "abcdef"}) {
            RetentionArchive x = Checks.loaded(HEAD + "class " + name + " 1 1");
            Checks.same("the name " + name, Checks.name(9, i -> x.classLetter(1, i)), name);
        }
        Checks.wrong(3, HEAD + "class ^abcdefg 1 1");
        Checks.wrong(1, HEAD + "class ^abcdefgh 1 1");
    }

    /** "letters a to z" */
    private static void lettersOfClasses() {
        for (char letter = 'a'; letter <= 'z'; letter++) {
            Checks.same("the letter " + letter,
                    Checks.loaded("archive 2000 1 1;class " + letter + " 1 1").classLetter(0, 0), (int) letter);
        }
        for (char other : new char[] {'a' - 1, 'z' + 1, 'A', 'Z', '_', 'a' + 128, 'z' + 128}) {
            Checks.wrong(1, HEAD + "class ^" + other + " 1 1");
            Checks.wrong(1, HEAD + "class a^" + other + " 1 1");
        }
    }

    /** "a retention period of 1 to 50 years" */
    private static void periods() {
        Checks.wrong(2, HEAD + "class a ^0 1");
        Checks.same("the least period", Checks.loaded(HEAD + "class a 1 1").period(1), 1);
        Checks.same("the greatest period", Checks.loaded(HEAD + "class a 50 1").period(1), 50);
        Checks.wrong(2, HEAD + "class a ^51 1");
    }

    /** "a closed period of 0 to 50 years" */
    private static void closedPeriods() {
        Checks.wrong(1, HEAD + "class a 1 ^-1");
        Checks.same("the least closed period", Checks.loaded(HEAD + "class a 1 0").closedPeriod(1), 0);
        Checks.same("the greatest closed period", Checks.loaded(HEAD + "class a 1 50").closedPeriod(1), 50);
        Checks.wrong(2, HEAD + "class a 1 ^51");
    }

    /** "and is permanent or not." */
    private static void permanentOrNot() {
        RetentionArchive x = Checks.loaded("archive 2000 1 1;class a 1 1 forever;class b 1 1");
        Checks.same("with forever", x.isPermanent(0), true);
        Checks.same("without forever", x.isPermanent(1), false);
    }

    /** "No two record classes have the same name." */
    private static void classesOfTheSameName() {
        Checks.wrong(3, classes(7) + ";class ^a 1 1");
        Checks.wrong(3, classes(7) + ";class ^g 1 1");
        Checks.wrong(3, "archive 2000 1 1;class abcdef 1 1;class ^abcdef 1 1");
        Checks.right("archive 2000 1 1;class abcdef 1 1;class abcdeg 1 1;class bbcdef 1 1;class abcde 1 1;class fedcba 1 1");
        Checks.right("archive 2000 1 1;reader same 1;class same 1 1");
    }

    /** "There are 0 to 24 boxes, numbered from 0." */
    private static void numberOfBoxes() {
        RetentionArchive none = Checks.loaded(ROOM + "list");
        Checks.same("boxCount without boxes", none.boxCount(), 0);
        Checks.throwsIndex("classOf(0) without boxes", () -> none.classOf(0));
        RetentionArchive all = Checks.loaded(ROOM + TWENTY_FOUR);
        Checks.same("boxCount", all.boxCount(), 24);
        Checks.same("classOf(0)", all.classOf(0), 0);
        Checks.same("classOf(23)", all.classOf(23), 0);
        Checks.throwsIndex("classOf(24)", () -> all.classOf(24));
        Checks.throwsIndex("classOf(-1)", () -> all.classOf(-1));
        Checks.same("places are free", all.freePlaces(), 24);
        Checks.refusesArgument(all, "a twenty-fifth box", () -> all.addBox(0, 1980));
        Checks.wrong(4, ROOM + TWENTY_FOUR + ";^box 0 1980");
    }

    /** "a closing year, which is not greater than the current year when the box is added" */
    private static void closingYears() {
        Checks.same("closed this year", Checks.loaded(HEAD + "box 0 2000").closingYear(0), 2000);
        Checks.wrong(2, HEAD + "box 0 ^2001");
        Checks.same("closed this later year", Checks.loaded(HEAD + "pass 7;box 0 2007").closingYear(0), 2007);
        Checks.wrong(2, HEAD + "pass 7;box 0 ^2008");
        RetentionArchive x = Checks.loaded(HEAD + "pass 7");
        Checks.refusesArgument(x, "addBox of the next year", () -> x.addBox(0, 2008));
        Checks.same("addBox of this year", x.addBox(0, 2007), 0);
        Checks.same("closingYear", x.closingYear(0), 2007);
    }

    /** "a postponement in years, which is 0 at first, a seal or none, and possibly a loan" */
    private static void newBoxes() {
        RetentionArchive x = Checks.loaded(HEAD + "reader r 4;box 0 1980;list;strike 0 5;seal 0 2001;pass 2;request 0 0");
        String fresh = " at 0,1 0 lent -1/-1 due 1991/0 obstacle 0 waiting 0/-1";
        Checks.same("the box before", x.postponement(0) + " " + x.sealedUntil(0) + " " + x.borrower(0), "5 2001 0");
        x.addBox(0, 1980);
        Checks.same("the new box", Checks.box(x, 1), "box 0 1980" + fresh);
        x.seal(1, 2002);
        x.undo();
        x.undo();
        x.addBox(0, 1980);
        Checks.same("the new box in a row that was used", Checks.box(x, 1), "box 0 1980" + fresh);
    }

    /** "the box is sealed as long as the current year is not greater than this year." */
    private static void lastYearOfASeal() {
        RetentionArchive x = Checks.loaded(HEAD + "box 0 1980;box 0 1980;seal 0 2000;seal 1 2001");
        Checks.same("in the last year, which is this year", x.isSealed(0), true);
        Checks.same("ahead of the last year", x.isSealed(1), true);
        x.passYears(1);
        Checks.same("a year behind the last year", x.isSealed(0), false);
        Checks.same("in the last year", x.isSealed(1), true);
        x.passYears(1);
        Checks.same("two years behind", x.isSealed(0), false);
        Checks.same("a year behind", x.isSealed(1), false);
        Checks.same("never sealed", Checks.loaded(HEAD + "box 0 1980").isSealed(0), false);
    }

    /** "closing year plus the retention period of its class plus its postponement plus 1" */
    private static void dueYears() {
        RetentionArchive x = Checks.loaded("archive 2500 1 4;class a 1 0;class b 50 0;box 0 1800;box 1 2500;list");
        Checks.same("the least due year", x.dueYear(0), 1802);
        Checks.same("due after the longest period", x.dueYear(1), 2551);
        Checks.same("after a strike by 1", x.strike(0, 1), 1803);
        x.makeList();
        Checks.same("after a strike by 20 more", x.strike(0, 20), 1823);
        Checks.same("dueYear", x.dueYear(0), 1823);
        x.makeList();
        x.approveList();
        Checks.same("destroyed", x.isDestroyed(0), true);
        Checks.same("dueYear of the destroyed box", x.dueYear(0), 1823);
    }

    /** "open to readers if the current year is greater than its closing year plus the closed period of its class." */
    private static void openToReaders() {
        RetentionArchive x = Checks.loaded("archive 2000 1 8;class a 1 0;class b 1 1;class c 1 50;reader r 4;box 0 1999;"
                + "box 0 2000;box 1 1998;box 1 1999;box 2 1949;box 2 1950");
        for (int box = 0; box < 6; box += 2) {
            Checks.same("a year behind the closed period", x.requestObstacle(0, box), 0);
            Checks.same("in the last closed year", x.requestObstacle(0, box + 1), 3);
        }
        x.passYears(1);
        for (int box = 1; box < 6; box += 2) {
            Checks.same("a year later", x.requestObstacle(0, box), 0);
        }
    }

    /** "The archive has 1 to 6 shelves, numbered from 0" */
    private static void numberOfShelves() {
        Checks.wrong(2, "archive 2000 ^0 2");
        for (int shelves = 1; shelves <= 6; shelves++) {
            RetentionArchive x = Checks.loaded("archive 2000 " + shelves + " 2");
            int behind = shelves;
            Checks.same("shelfCount", x.shelfCount(), shelves);
            Checks.same("freePlaces", x.freePlaces(), 2 * shelves);
            Checks.throwsIndex("boxAt(-1, 0)", () -> x.boxAt(-1, 0));
            Checks.same("boxAt of the first shelf", x.boxAt(0, 0), -1);
            Checks.same("boxAt of the last shelf", x.boxAt(shelves - 1, 0), -1);
            Checks.throwsIndex("boxAt behind the last shelf", () -> x.boxAt(behind, 0));
        }
        Checks.wrong(2, "archive 2000 ^7 2");
    }

    /** "with the same number of places, 1 to 8, numbered from 0 on each shelf" */
    private static void numberOfPlaces() {
        Checks.wrong(2, "archive 2000 2 ^0");
        for (int places = 1; places <= 8; places++) {
            RetentionArchive x = Checks.loaded("archive 2000 2 " + places);
            int behind = places;
            Checks.same("placesPerShelf", x.placesPerShelf(), places);
            Checks.same("freePlaces", x.freePlaces(), 2 * places);
            for (int shelf = 0; shelf < 2; shelf++) {
                int s = shelf;
                Checks.throwsIndex("boxAt(" + shelf + ", -1)", () -> x.boxAt(s, -1));
                Checks.same("boxAt of the first place", x.boxAt(shelf, 0), -1);
                Checks.same("boxAt of the last place", x.boxAt(shelf, places - 1), -1);
                Checks.throwsIndex("boxAt behind the last place", () -> x.boxAt(s, behind));
            }
        }
        Checks.wrong(2, "archive 2000 2 ^9");
    }

    /** "The number of a shelf mark is the shelf times the number of places per shelf, plus the place." */
    private static void numbersOfMarks() {
        for (int[] size : new int[][] {{1, 1}, {1, 8}, {6, 1}, {2, 3}, {3, 2}, {6, 8}}) {
            int shelves = size[0];
            int places = size[1];
            RetentionArchive x = Checks.loaded("archive 2000 " + shelves + " " + places + ";class a 1 1;box 0 1980");
            for (int mark = 1; mark < shelves * places; mark++) {
                Checks.same("the mark before", x.moveBox(0, mark / places, mark % places), mark - 1);
                Checks.same("shelfOf", x.shelfOf(0), mark / places);
                Checks.same("placeOf", x.placeOf(0), mark % places);
                Checks.same("boxAt", x.boxAt(mark / places, mark % places), 0);
                Checks.same("firstFreeMark", x.firstFreeMark(), 0);
            }
        }
    }

    /** "Each box that is not destroyed has a shelf mark, also while it is lent, and no two boxes have the same one." */
    private static void marksOfBoxes() {
        RetentionArchive x = Checks.loaded("archive 2000 3 8;class tax 10 2;reader r 4;" + TWENTY_FOUR + ";request 0 0;"
                + "request 0 23");
        for (int box = 0; box < 24; box++) {
            Checks.same("shelfOf(" + box + ")", x.shelfOf(box), box / 8);
            Checks.same("placeOf(" + box + ")", x.placeOf(box), box % 8);
            Checks.same("boxAt", x.boxAt(box / 8, box % 8), box);
        }
        for (int box = 0; box < 24; box++) {
            int other = box;
            Checks.throwsArgument("moveBox to box " + box, () -> x.moveBox(5, other / 8, other % 8));
        }
        Checks.wrong(3, HEAD + "reader r 1;box 0 1980;request 0 0;box 0 1980 at 0 ^0");
        Checks.wrong(3, HEAD + "reader r 1;box 0 1980;box 0 1980;request 0 0;move 1 0 ^0");
    }

    /** "A place is free if no box has its shelf mark." */
    private static void freePlaces() {
        RetentionArchive x = Checks.loaded("archive 2000 1 2;class a 10 0;reader r 1;box 0 1980;box 0 1980;request 0 0");
        Checks.same("no place is free", x.freePlaces(), 0);
        x.makeList();
        Checks.same("one is destroyed", x.approveList(), 1);
        Checks.same("its place is free", x.freePlaces(), 1);
        Checks.same("boxAt of the free place", x.boxAt(0, 1), -1);
        Checks.same("boxAt of the lent box", x.boxAt(0, 0), 0);
        Checks.same("moveBox to the free place", x.moveBox(0, 0, 1), 0);
        Checks.same("the place that was left is free", x.boxAt(0, 0), -1);
        Checks.same("addBox", x.addBox(0, 1980), 2);
        Checks.same("it stands at the place that was left", x.boxAt(0, 0), 2);
    }

    /** "The first free place is the one with the smallest number of its shelf mark." */
    private static void firstFreePlace() {
        RetentionArchive x = Checks.loaded("archive 2000 2 3;class a 10 0;box 0 1980 at 1 1");
        int[] due = {0, 1, 2, 3, 5};
        for (int box = 1; box <= 5; box++) {
            Checks.same("firstFreeMark", x.firstFreeMark(), due[box - 1]);
            x.addBox(0, 1995);
            Checks.same("shelfOf", x.shelfOf(box), due[box - 1] / 3);
            Checks.same("placeOf", x.placeOf(box), due[box - 1] % 3);
        }
        Checks.same("firstFreeMark of a full archive", x.firstFreeMark(), -1);
        x.makeList();
        x.approveList();
        Checks.same("firstFreeMark after a destruction", x.firstFreeMark(), 4);
        RetentionArchive y = Checks.loaded("archive 2000 2 2;class a 1 1;box 0 1980;box 0 1980 at 1 0;box 0 1980;box 0 1980");
        Checks.same("the first box without at", y.boxAt(0, 0), 0);
        Checks.same("the next free place", y.boxAt(0, 1), 2);
        Checks.same("behind the taken place", y.boxAt(1, 1), 3);
    }
}
