/** Promises 2 to 61 at their limits; each test tells the promise that it is for. Refused calls are in RefusalTest. */
final class CallLimitsTest {
    private static final String HEAD = "archive 2000 2 4;class tax 10 0;class maps 5 0 forever;reader ann 1;reader bob 4;";
    private static final String ALL = "archive 2000 6 8;class a 1 0;reader a 4;reader b 4;reader c 4;reader d 4;reader e 4;"
            + "reader f 4;repeat 8(box 0 1980;box 0 1980;box 0 1980)";

    private CallLimitsTest() {
    }

    static void run() {
        append();
        appendOfEveryByte();
        appendBeyondTheEnd();
        loadOfNothingAndOfAll();
        loadEmptiesTheBuffer();
        loadCountsTheBoxes();
        parseErrorAndItsPosition();
        counts();
        boxAt();
        loanCount();
        inconsistencies();
        letters();
        destroyedBoxes();
        sealedUntil();
        borrowerAndLoanYear();
        listedBox();
        nextReader();
        yearsOfPredictions();
        predictionsOfTheLastYear();
        predictionsOfNoYears();
        placesToCountUpTo();
        loansInPredictions();
        nextDueBox();
        usedShare();
        meanAge();
        writeMark();
        writeShelf();
        firstSignThatApplies();
        writeList();
        textByte();
        passYears();
        addBox();
        moveBox();
        seal();
        requestAndGiveBack();
        makeAndApproveList();
        fiveHundredAndTwelveCalls();
    }

    /** Promise 2: "NONE, with nothing appended, if it would exceed 600." */
    private static void append() {
        RetentionArchive x = new RetentionArchive();
        Checks.same("bufferLength", x.bufferLength(), 0);
        for (int length = 20; length <= 600; length += 20) {
            Checks.same("append", x.append(0x20202020, 0x20202020, 0x20202020, 0x20202020, 0x20202020), length);
            Checks.same("bufferLength", x.bufferLength(), length);
        }
        for (int i = 0; i < 3; i++) {
            Checks.same("append beyond 600", x.append(-1, -1, -1, -1, -1), -1);
            Checks.same("bufferLength", x.bufferLength(), 600);
        }
        Checks.throwsArgument("load(600) of spaces", () -> x.load(600));
        Checks.same("errorPosition", x.errorPosition(), 600);
        Checks.same("append to the emptied buffer", x.append(0, 0, 0, 0, 0), 20);
    }

    /** Promise 2: "the four bytes of each parameter in order, most significant byte first" */
    private static void appendOfEveryByte() {
        for (int at = 0; at < 20; at++) {
            for (int b : new int[] {0, 1, 127, 128, 255}) {
                int[] words = {0x20202020, 0x20202020, 0x20202020, 0x20202020, 0x20202020};
                int shift = 24 - 8 * (at % 4);
                words[at / 4] ^= (b ^ 0x20) << shift;
                RetentionArchive x = new RetentionArchive();
                x.append(words[0], words[1], words[2], words[3], words[4]);
                Checks.throwsArgument("load(20)", () -> x.load(20));
                Checks.same("the place of byte " + b, x.errorPosition(), at);
            }
        }
    }

    private static void appendBeyondTheEnd() {
        RetentionArchive x = new RetentionArchive();
        String text = "archive 2000 1 1" + " ".repeat(580) + ";pas";
        Checks.append(x, text);
        Checks.append(x, "s 1;list");
        Checks.throwsArgument("load(600)", () -> x.load(600));
        Checks.same("the last word is not gone on with", x.errorPosition(), 597);
    }

    /** Promise 3: "number of bytes to parse", 0 to the buffer length. */
    private static void loadOfNothingAndOfAll() {
        RetentionArchive x = new RetentionArchive();
        Checks.throwsArgument("load(0) of an empty buffer", () -> x.load(0));
        Checks.same("parseError", x.parseError(), 1);
        Checks.same("errorPosition", x.errorPosition(), 0);
        Checks.append(x, "archive 2000 1 1;list");
        Checks.throwsArgument("load(0)", () -> x.load(0));
        Checks.same("errorPosition", x.errorPosition(), 0);
        Checks.append(x, "archive 2000 1 1    ");
        Checks.throwsIndex("load(21)", () -> x.load(21));
        Checks.same("load(20)", x.load(20), 0);
    }

    /** Promise 3: "The buffer is empty afterwards, also after a parse error." */
    private static void loadEmptiesTheBuffer() {
        RetentionArchive x = new RetentionArchive();
        Checks.append(x, "archive 2000 1 1;list;list;list");
        Checks.same("load of the first bytes", x.load(16), 0);
        Checks.same("bufferLength", x.bufferLength(), 0);
        Checks.throwsIndex("load(1)", () -> x.load(1));
        Checks.append(x, "zap;list;list;list;list");
        Checks.throwsArgument("load(3)", () -> x.load(3));
        Checks.same("bufferLength", x.bufferLength(), 0);
        Checks.throwsIndex("load(1)", () -> x.load(1));
        Checks.same("year", x.year(), 2000);
    }

    /** Promise 3: "Returns the number of boxes." */
    private static void loadCountsTheBoxes() {
        Checks.same("no boxes", Checks.load(new RetentionArchive(), "archive 2000 1 1"), 0);
        Checks.same("all boxes", Checks.load(new RetentionArchive(), ALL), 24);
        Checks.same("destroyed boxes too", Checks.load(new RetentionArchive(), ALL + ";list;approve"), 24);
    }

    /** Promises 4 and 5: "0 if it succeeded or there was no such call", "NONE if parseError() is 0" */
    private static void parseErrorAndItsPosition() {
        RetentionArchive x = new RetentionArchive();
        String[] texts = {"archive 2000 1 1", "zap", "archive 2000 1 9", "archive 2000 1 1;reader archive 1",
            "archive 2000 1 1;repeat 1(repeat 1(repeat", "archive 2000 1 1"};
        int[] codes = {0, 1, 2, 3, 4, 0};
        int[] positions = {-1, 0, 15, 24, 35, -1};
        Checks.throwsIndex("load(1) ahead of all", () -> x.load(1));
        Checks.same("parseError without a load", x.parseError(), 0);
        Checks.same("errorPosition without a load", x.errorPosition(), -1);
        for (int i = 0; i < texts.length; i++) {
            String text = texts[i];
            Checks.thrownBy(() -> Checks.load(x, text));
            Checks.throwsIndex("load(-1)", () -> x.load(-1));
            Checks.throwsIndex("load(1)", () -> x.load(1));
            Checks.same("parseError of " + text, x.parseError(), codes[i]);
            Checks.same("errorPosition of " + text, x.errorPosition(), positions[i]);
        }
    }

    /** Promises 7 to 14 and 16: nothing, and all that there can be. */
    private static void counts() {
        RetentionArchive least = Checks.loaded("archive 1900 1 1");
        Checks.same("year", least.year(), 1900);
        Checks.same("boxCount", least.boxCount(), 0);
        Checks.same("freePlaces", least.freePlaces(), 1);
        Checks.same("firstFreeMark", least.firstFreeMark(), 0);
        Checks.same("destroyedCount", least.destroyedCount(), 0);
        Checks.same("loanCount", least.loanCount(), 0);
        RetentionArchive most = Checks.loaded(ALL);
        Checks.same("boxCount", most.boxCount(), 24);
        Checks.same("readerCount", most.readerCount(), 6);
        Checks.same("freePlaces", most.freePlaces(), 24);
        Checks.same("firstFreeMark", most.firstFreeMark(), 24);
        most.makeList();
        most.approveList();
        Checks.same("destroyedCount", most.destroyedCount(), 24);
        Checks.same("boxCount with destroyed ones", most.boxCount(), 24);
        Checks.same("freePlaces", most.freePlaces(), 48);
        Checks.same("firstFreeMark", most.firstFreeMark(), 0);
        RetentionArchive full = Checks.loaded("archive 2000 1 1;class a 1 0;box 0 1980");
        Checks.same("freePlaces of a full archive", full.freePlaces(), 0);
        Checks.same("firstFreeMark of a full archive", full.firstFreeMark(), -1);
        Checks.same("the last place", Checks.loaded("archive 2000 6 4;class a 1 0;repeat 8(box 0 1980;box 0 1980);"
                + "repeat 7(box 0 1980)").firstFreeMark(), 23);
    }

    /** Promise 15: "NONE if the place is free" */
    private static void boxAt() {
        RetentionArchive x = Checks.loaded("archive 2000 6 8;class a 1 0;box 0 1980;box 0 1980 at 0 7;box 0 1980 at 5 0;"
                + "box 0 1980 at 5 7");
        int box = 0;
        for (int shelf = 0; shelf < 6; shelf++) {
            for (int place = 0; place < 8; place++) {
                boolean corner = shelf % 5 == 0 && place % 7 == 0;
                Checks.same("boxAt(" + shelf + ", " + place + ")", x.boxAt(shelf, place), corner ? box++ : -1);
            }
        }
        x.makeList();
        x.approveList();
        Checks.same("boxAt of a destroyed box's place", x.boxAt(5, 7), -1);
    }

    /** Promise 17: no box, and all boxes. */
    private static void loanCount() {
        RetentionArchive x = Checks.loaded(ALL);
        for (int box = 0; box < 24; box++) {
            Checks.same("loanCount", x.loanCount(), box);
            Checks.same("request", x.request(box / 4, box), true);
        }
        Checks.same("loanCount of all boxes", x.loanCount(), 24);
        Checks.same("passYears(1)", x.passYears(1), 24);
        Checks.same("passYears(1)", x.passYears(1), 0);
        Checks.same("inconsistencies", x.inconsistencies(), 0);
    }

    /** Promise 18: "always 0" */
    private static void inconsistencies() {
        RetentionArchive x = Checks.loaded(HEAD + "box 0 1980;box 0 1980;box 1 1980;box 0 1999;seal 1 2001;request 0 0");
        Checks.same("inconsistencies", x.inconsistencies(), 0);
        x.makeList();
        x.giveBack(0);
        x.approveList();
        x.passYears(2);
        x.request(0, 1);
        x.request(0, 3);
        Checks.same("with destroyed, sealed and lent boxes", x.inconsistencies(), 0);
        Checks.same("without boxes", Checks.loaded("archive 2000 6 8").inconsistencies(), 0);
        Checks.same("with a full archive", Checks.loaded("archive 2000 1 1;class a 1 1;box 0 1980").inconsistencies(), 0);
    }

    /** Promises 19 and 37: "NONE if the index is negative or not less than the length of the name" */
    private static void letters() {
        String name = "zyxabc";
        for (int length = 1; length <= 6; length++) {
            String part = name.substring(0, length);
            RetentionArchive x = Checks.loaded("archive 2000 1 1;class " + part + " 1 1;reader " + part + " 1");
            for (int index = 0; index < length; index++) {
                Checks.same("classLetter", x.classLetter(0, index), (int) name.charAt(index));
                Checks.same("readerLetter", x.readerLetter(0, index), (int) name.charAt(index));
            }
            for (int index : new int[] {Integer.MIN_VALUE, -64, -1, length, 7, 8, 9, 63, 64, 128, Integer.MAX_VALUE}) {
                Checks.same("classLetter(0, " + index + ")", x.classLetter(0, index), -1);
                Checks.same("readerLetter(0, " + index + ")", x.readerLetter(0, index), -1);
            }
            Checks.throwsIndex("classLetter of no class", () -> x.classLetter(1, -1));
            Checks.throwsIndex("readerLetter of no reader", () -> x.readerLetter(1, -1));
        }
    }

    /** Promises 25 and 26: "NONE if it is destroyed"; promise 32: "also if its record class is permanent or destroyed" */
    private static void destroyedBoxes() {
        RetentionArchive x = Checks.loaded(HEAD + "box 0 1980;box 1 1980;list");
        Checks.same("shelfOf", x.shelfOf(0), 0);
        Checks.same("placeOf", x.placeOf(0), 0);
        Checks.same("isDestroyed", x.isDestroyed(0), false);
        x.approveList();
        Checks.same("shelfOf", x.shelfOf(0), -1);
        Checks.same("placeOf", x.placeOf(0), -1);
        Checks.same("isDestroyed", x.isDestroyed(0), true);
        Checks.same("dueYear of a destroyed box", x.dueYear(0), 1991);
        Checks.same("dueYear of a permanent box", x.dueYear(1), 1986);
        Checks.same("classOf a destroyed box", x.classOf(0), 0);
        Checks.same("closingYear of a destroyed box", x.closingYear(0), 1980);
        RetentionArchive one = Checks.loaded("archive 2000 1 1;class a 1 0;box 0 1980;list;approve");
        Checks.same("shelfOf in an archive of one place", one.shelfOf(0), -1);
        Checks.same("placeOf in an archive of one place", one.placeOf(0), -1);
    }

    /** Promise 29: "also if this year is over; 0 if the box has no seal" */
    private static void sealedUntil() {
        RetentionArchive x = Checks.loaded(HEAD + "box 0 1980;box 0 1980;seal 1 2000");
        Checks.same("without a seal", x.sealedUntil(0), 0);
        Checks.same("in the last year", x.sealedUntil(1), 2000);
        x.passYears(50);
        Checks.same("long after the last year", x.sealedUntil(1), 2000);
        Checks.same("isSealed", x.isSealed(1), false);
        x.makeList();
        x.approveList();
        Checks.same("of a destroyed box", x.sealedUntil(1), 0);
    }

    /** Promises 30 and 31: "NONE if it is not lent" */
    private static void borrowerAndLoanYear() {
        RetentionArchive x = Checks.loaded(HEAD + "box 0 1980;request 0 0");
        Checks.same("borrower", x.borrower(0), 0);
        Checks.same("loanYear", x.loanYear(0), 2000);
        x.giveBack(0);
        Checks.same("borrower", x.borrower(0), -1);
        Checks.same("loanYear", x.loanYear(0), -1);
    }

    /** Promises 35 and 36: positions 0 to the length of the list minus 1. */
    private static void listedBox() {
        RetentionArchive x = Checks.loaded(HEAD + "box 1 1980;box 0 1980;list");
        Checks.same("listLength", x.listLength(), 1);
        Checks.same("listedBox(0)", x.listedBox(0), 1);
        Checks.throwsIndex("listedBox(1)", () -> x.listedBox(1));
        Checks.throwsIndex("listedBox(-1)", () -> x.listedBox(-1));
    }

    /** Promises 41 and 42: "NONE if the queue is empty" */
    private static void nextReader() {
        RetentionArchive x = Checks.loaded(HEAD + "box 0 1980;request 1 0");
        Checks.same("waitingReaders", x.waitingReaders(0), 0);
        Checks.same("nextReader", x.nextReader(0), -1);
        x.request(0, 0);
        Checks.same("waitingReaders", x.waitingReaders(0), 1);
        Checks.same("nextReader", x.nextReader(0), 0);
        x.giveBack(0);
        Checks.same("waitingReaders", x.waitingReaders(0), 0);
        Checks.same("nextReader", x.nextReader(0), -1);
    }

    /** Promises 43 and 44: a box counts from its due year on. */
    private static void yearsOfPredictions() {
        RetentionArchive x = Checks.loaded(HEAD + "box 0 1989;box 0 1990;box 0 2000;box 1 1980");
        int[] destroyable = {1, 2, 2, 2, 2, 2, 2, 2, 2, 2, 2, 3, 3};
        for (int years = 0; years <= 12; years++) {
            Checks.same("destroyableAfter(" + years + ")", x.destroyableAfter(years), destroyable[years]);
            Checks.same("freeAfter(" + years + ")", x.freeAfter(years), years == 0 ? 4 : 4 + destroyable[years]);
        }
    }

    /** Promises 43 to 45: "number of years, 0 to 100" */
    private static void predictionsOfTheLastYear() {
        RetentionArchive x = Checks.loaded("archive 2000 1 1;class a 1 0;box 0 1980;seal 0 2099");
        Checks.same("destroyableAfter(99)", x.destroyableAfter(99), 0);
        Checks.same("destroyableAfter(100)", x.destroyableAfter(100), 1);
        Checks.same("freeAfter(99)", x.freeAfter(99), 0);
        Checks.same("freeAfter(100)", x.freeAfter(100), 1);
        Checks.same("yearsUntilFree(1) in the last year", x.yearsUntilFree(1), 100);
        x.seal(0, 2100);
        Checks.same("destroyableAfter(100)", x.destroyableAfter(100), 0);
        Checks.same("freeAfter(100)", x.freeAfter(100), 0);
        Checks.same("yearsUntilFree(1) behind the last year", x.yearsUntilFree(1), -1);
        Checks.refusesArgument(x, "destroyableAfter(101)", () -> x.destroyableAfter(101));
        Checks.refusesArgument(x, "freeAfter(101)", () -> x.freeAfter(101));
    }

    /** Promises 43 to 45: no list is made when no year passes. */
    private static void predictionsOfNoYears() {
        RetentionArchive x = Checks.loaded("archive 2000 1 2;class a 1 0;box 0 1980;box 0 1980;list");
        Checks.same("destroyableAfter(0)", x.destroyableAfter(0), 2);
        Checks.same("freeAfter(0)", x.freeAfter(0), 0);
        Checks.same("yearsUntilFree(1)", x.yearsUntilFree(1), 1);
        x.approveList();
        Checks.same("destroyableAfter(0)", x.destroyableAfter(0), 0);
        Checks.same("freeAfter(0)", x.freeAfter(0), 2);
        Checks.same("yearsUntilFree(2)", x.yearsUntilFree(2), 0);
        Checks.same("yearsUntilFree(3)", x.yearsUntilFree(3), -1);
        Checks.refusesArgument(x, "destroyableAfter(-1)", () -> x.destroyableAfter(-1));
        Checks.refusesArgument(x, "freeAfter(-1)", () -> x.freeAfter(-1));
    }

    /** Promise 45: "number of places, 1 to 48" */
    private static void placesToCountUpTo() {
        RetentionArchive x = Checks.loaded("archive 2000 6 8;class a 1 0;class b 1 0 forever;box 0 1980");
        Checks.refusesArgument(x, "yearsUntilFree(0)", () -> x.yearsUntilFree(0));
        Checks.same("yearsUntilFree(1)", x.yearsUntilFree(1), 0);
        Checks.same("yearsUntilFree(47)", x.yearsUntilFree(47), 0);
        Checks.same("yearsUntilFree(48)", x.yearsUntilFree(48), 1);
        Checks.refusesArgument(x, "yearsUntilFree(49)", () -> x.yearsUntilFree(49));
        x.addBox(1, 1980);
        Checks.same("yearsUntilFree(47)", x.yearsUntilFree(47), 1);
        Checks.same("yearsUntilFree(48) with a permanent box", x.yearsUntilFree(48), -1);
    }

    /** Promises 43 and 44: loans end and waiting readers are served in those years too. */
    private static void loansInPredictions() {
        RetentionArchive x = Checks.loaded(HEAD + "box 0 1980;request 0 0;request 1 0");
        int[] destroyable = {0, 0, 0, 0, 1};
        for (int years = 0; years <= 4; years++) {
            Checks.same("destroyableAfter(" + years + ")", x.destroyableAfter(years), destroyable[years]);
            Checks.same("freeAfter(" + years + ")", x.freeAfter(years), 7 + destroyable[years]);
        }
        Checks.same("yearsUntilFree(8)", x.yearsUntilFree(8), 4);
        Checks.same("the loan itself stays", x.borrower(0), 0);
    }

    /** Promise 46: "the smallest number on a tie; NONE if there is none" */
    private static void nextDueBox() {
        Checks.same("without boxes", Checks.loaded(HEAD + "list").nextDueBox(), -1);
        Checks.same("of permanent boxes", Checks.loaded(HEAD + "box 1 1980").nextDueBox(), -1);
        Checks.same("of destroyed boxes", Checks.loaded(HEAD + "box 0 1980;list;approve").nextDueBox(), -1);
        Checks.same("on a tie", Checks.loaded(HEAD + "box 1 1970;box 0 1990;box 0 1980;box 0 1980").nextDueBox(), 2);
        Checks.same("of the first box", Checks.loaded(HEAD + "box 0 1980;box 0 1981").nextDueBox(), 0);
        Checks.same("of the first box on a tie", Checks.loaded(HEAD + "box 0 1980;box 0 1980").nextDueBox(), 0);
        Checks.same("of a later box", Checks.loaded(HEAD + "box 0 1981;box 0 1980").nextDueBox(), 1);
        Checks.same("of a box that is not due", Checks.loaded(HEAD + "box 0 2000;box 0 1999").nextDueBox(), 1);
        Checks.same("of the last box", Checks.loaded(ALL.replace("8(box 0 1980;box 0 1980", "7(box 0 1980;box 0 1980")
                + ";box 0 1980;box 0 1980;box 0 1979").nextDueBox(), 23);
    }

    /** Promise 47: no place is used, and each is. */
    private static void usedShare() {
        Checks.same("no place of one", Checks.loaded("archive 2000 1 1").usedShare(), 0.0f);
        Checks.same("one place of one", Checks.loaded("archive 2000 1 1;class a 1 1;box 0 1980").usedShare(), 1.0f);
        Checks.same("one place of 48", Checks.loaded("archive 2000 6 8;class a 1 1;box 0 1980").usedShare(), 1.0f / 48.0f);
        Checks.same("24 places of 48", Checks.loaded(ALL).usedShare(), 0.5f);
        Checks.same("a lent box's place is used", Checks.loaded(ALL + ";request 0 0").usedShare(), 0.5f);
        Checks.same("places of destroyed boxes", Checks.loaded(ALL + ";list;approve").usedShare(), 0.0f);
    }

    /** Promise 48: "0.0 if there are none" */
    private static void meanAge() {
        Checks.same("without boxes", Checks.loaded(HEAD + "list").meanAge(), 0.0);
        Checks.same("of destroyed boxes", Checks.loaded(ALL + ";list;approve").meanAge(), 0.0);
        Checks.same("of a box of this year", Checks.loaded(HEAD + "box 0 2000").meanAge(), 0.0);
        Checks.same("of one box", Checks.loaded(HEAD + "box 0 1999").meanAge(), 1.0);
        Checks.same("without the destroyed box", Checks.loaded(HEAD + "box 0 1980;list;approve;box 0 1998").meanAge(), 2.0);
        Checks.same("of a third", Checks.loaded(HEAD + "box 0 1999;box 0 2000;box 0 2000").meanAge(), 1.0 / 3.0);
        Checks.same("of the oldest boxes", Checks.loaded("archive 2500 6 8;class a 1 0;repeat 8(box 0 1800;box 0 1800;"
                + "box 0 1800);repeat 5(pass 50;pass 50)").meanAge(), 1200.0);
    }

    private static void written(RetentionArchive x, int length, String due) {
        Checks.same("the written text", Checks.written(x), due);
        Checks.same("the length of " + due, length, due.length());
        Checks.throwsIndex("textByte behind it", () -> x.textByte(due.length()));
    }

    /** Promise 49: the first and the last shelf and place; "a single hyphen ... if the box is destroyed" */
    private static void writeMark() {
        RetentionArchive x = Checks.loaded("archive 2000 6 8;class abcdef 1 0;class z 1 0;box 0 1980;box 1 1980");
        for (int mark = 2; mark < 48; mark++) {
            x.moveBox(0, mark / 8, mark % 8);
            written(x, x.writeMark(0), "ABCDEF".charAt(mark / 8) + "" + mark % 8 + "/abcdef");
        }
        written(x, x.writeMark(1), "A1/z");
        x.makeList();
        x.approveList();
        written(x, x.writeMark(0), "-/abcdef");
        written(x, x.writeMark(1), "-/z");
    }

    /** Promise 50: each place of the first and the last shelf, from 1 place to 8. */
    private static void writeShelf() {
        for (int places = 1; places <= 8; places++) {
            RetentionArchive x = Checks.loaded("archive 2000 6 " + places + ";class a 1 0;box 0 1980;box 0 2000 at 5 "
                    + (places - 1));
            written(x, x.writeShelf(0), "d" + ".".repeat(places - 1));
            written(x, x.writeShelf(5), ".".repeat(places - 1) + "b");
        }
    }

    /** Promise 50: "the first of these that applies to its box": l, s, p, d, b */
    private static void firstSignThatApplies() {
        RetentionArchive x = Checks.loaded(HEAD + "box 0 1980;box 0 1980;box 1 1980;box 1 1980;box 1 1980;box 0 1995;"
                + "box 0 1989;box 0 1990;request 1 0;request 1 2;request 1 3;request 1 5;seal 0 2000;seal 1 2000;seal 2 2000;"
                + "seal 4 2000");
        written(x, x.writeShelf(0), "lsll");
        written(x, x.writeShelf(1), "sldb");
        x.giveBack(0);
        x.giveBack(2);
        x.giveBack(3);
        x.giveBack(5);
        written(x, x.writeShelf(0), "sssp");
        written(x, x.writeShelf(1), "sbdb");
        x.passYears(1);
        written(x, x.writeShelf(0), "ddpp");
        written(x, x.writeShelf(1), "pbdd");
        x.makeList();
        x.approveList();
        written(x, x.writeShelf(0), "..pp");
        written(x, x.writeShelf(1), "pb..");
    }

    /** Promise 51: "with a space between two boxes; a single hyphen if the list is empty" */
    private static void writeList() {
        RetentionArchive x = Checks.loaded(HEAD + "box 0 1981;box 0 1980");
        written(x, x.writeList(), "-");
        x.makeList();
        written(x, x.writeList(), "1:1991 0:1992");
        x.strike(1, 1);
        written(x, x.writeList(), "0:1992");
        x.strike(0, 1);
        written(x, x.writeList(), "-");
        RetentionArchive all = Checks.loaded(ALL + ";list");
        StringBuilder due = new StringBuilder("0:1982");
        for (int box = 1; box < 24; box++) {
            due.append(' ').append(box).append(":1982");
        }
        written(all, all.writeList(), due.toString());
    }

    /** Promise 52: "index of the byte, from 0" */
    private static void textByte() {
        RetentionArchive x = Checks.loaded(HEAD + "box 0 1980");
        Checks.throwsIndex("textByte(0) before a text has been written", () -> x.textByte(0));
        x.writeMark(0);
        int[] bytes = {65, 48, 47, 116, 97, 120};
        for (int i = 0; i < bytes.length; i++) {
            Checks.same("textByte(" + i + ")", x.textByte(i), bytes[i]);
        }
        Checks.throwsIndex("textByte(6)", () -> x.textByte(6));
        Checks.throwsIndex("textByte(-1)", () -> x.textByte(-1));
        x.writeShelf(1);
        Checks.same("textByte(3) of a shorter text", x.textByte(3), 46);
        Checks.throwsIndex("textByte(4) of a shorter text", () -> x.textByte(4));
        x.writeList();
        Checks.same("textByte(0) of an empty list", x.textByte(0), 45);
        Checks.throwsIndex("textByte(1) of an empty list", () -> x.textByte(1));
    }

    /** Promise 53: "number of years, 1 to 50"; a text's 500 years are none of it. */
    private static void passYears() {
        RetentionArchive x = Checks.loaded(HEAD + "box 0 1980;request 0 0;repeat 5(repeat 2(pass 50))");
        Checks.same("year", x.year(), 2500);
        Checks.same("passYears(1)", x.passYears(1), 0);
        Checks.same("year", x.year(), 2501);
        Checks.same("passYears(50)", x.passYears(50), 0);
        Checks.same("year", x.year(), 2551);
    }

    /** Promise 54: "closing year, 1800 to the current year", the twenty-fourth box, and the last free place. */
    private static void addBox() {
        RetentionArchive x = Checks.loaded("archive 2000 1 2;class a 1 0");
        Checks.refusesArgument(x, "addBox of 1799", () -> x.addBox(0, 1799));
        Checks.same("addBox of 1800", x.addBox(0, 1800), 0);
        Checks.refusesArgument(x, "addBox of 2001", () -> x.addBox(0, 2001));
        Checks.same("addBox of 2000, at the last free place", x.addBox(0, 2000), 1);
        Checks.refusesArgument(x, "addBox without a free place", () -> x.addBox(0, 2000));
        x.makeList();
        x.approveList();
        Checks.same("addBox at a place that is free again", x.addBox(0, 2000), 2);
        RetentionArchive y = Checks.loaded("archive 2000 6 8;class a 1 0;repeat 8(box 0 1980;box 0 1980);repeat 7(box 0 1980)");
        Checks.same("the twenty-fourth box", y.addBox(0, 1980), 23);
        Checks.refusesArgument(y, "a twenty-fifth box", () -> y.addBox(0, 1980));
        y.undo();
        Checks.same("the twenty-fourth box once more", y.addBox(0, 1980), 23);
        RetentionArchive eight = Checks.loaded("archive 2000 1 1;class a 1 0;class b 1 0;class c 1 0;class d 1 0;class e 1 0;"
                + "class f 1 0;class g 1 0;class h 1 0");
        Checks.refusesIndex(eight, "addBox of class 8", () -> eight.addBox(8, 1980));
        Checks.same("addBox of class 7", eight.addBox(7, 1980), 0);
        Checks.same("classOf", eight.classOf(0), 7);
    }

    /** Promise 55: from the first mark to the last and back. */
    private static void moveBox() {
        RetentionArchive x = Checks.loaded("archive 2000 6 8;class a 1 0;box 0 1980;box 0 1980 at 5 6");
        Checks.same("to the last mark", x.moveBox(0, 5, 7), 0);
        Checks.refusesArgument(x, "to a mark that is taken", () -> x.moveBox(0, 5, 6));
        Checks.refusesArgument(x, "to its own mark", () -> x.moveBox(0, 5, 7));
        Checks.same("to the first mark", x.moveBox(0, 0, 0), 47);
        Checks.refusesIndex(x, "to shelf 6", () -> x.moveBox(0, 6, 0));
        Checks.refusesIndex(x, "to place 8", () -> x.moveBox(0, 0, 8));
    }

    /** Promise 56: "the current year to 9999"; "0 if there was none" */
    private static void seal() {
        RetentionArchive x = Checks.loaded(HEAD + "box 0 1980;pass 3");
        Checks.refusesArgument(x, "seal until last year", () -> x.seal(0, 2002));
        Checks.same("seal until this year", x.seal(0, 2003), 0);
        Checks.same("seal until 9999", x.seal(0, 9999), 2003);
        Checks.refusesArgument(x, "seal until 10000", () -> x.seal(0, 10000));
        Checks.same("seal once more", x.seal(0, 2003), 9999);
        x.passYears(1);
        Checks.same("seal after a seal that is over", x.seal(0, 2004), 2003);
        RetentionArchive late = Checks.loaded("archive 2500 1 1;class a 1 0;box 0 1980;repeat 5(pass 50;pass 50)");
        for (int i = 0; i < 139; i++) {
            late.passYears(50);
        }
        late.passYears(49);
        Checks.same("year", late.year(), 9999);
        Checks.same("seal until the year that is the greatest one", late.seal(0, 9999), 0);
        late.passYears(1);
        Checks.refusesArgument(late, "seal when no year is left", () -> late.seal(0, 10000));
        Checks.refusesArgument(late, "seal until the year before", () -> late.seal(0, 9999));
        Checks.same("the year behind", late.isSealed(0), false);
    }

    /** Promises 57 and 58: "false if the reader waits", "NONE if there is none" */
    private static void requestAndGiveBack() {
        RetentionArchive x = Checks.loaded(HEAD + "box 0 1980;box 0 1980");
        Checks.same("lent", x.request(0, 0), true);
        Checks.same("waits for a lent box", x.request(1, 0), false);
        Checks.same("waits for a box that is not lent", x.request(0, 1), false);
        Checks.same("lent to the one who waits", x.giveBack(0), 1);
        Checks.same("lent to nobody", x.giveBack(0), -1);
        Checks.refusesArgument(x, "giveBack once more", () -> x.giveBack(0));
    }

    /** Promises 59 to 61: no box and all boxes. */
    private static void makeAndApproveList() {
        RetentionArchive none = Checks.loaded("archive 2000 1 1");
        Checks.same("makeList without boxes", none.makeList(), 0);
        Checks.same("approveList without boxes", none.approveList(), 0);
        RetentionArchive all = Checks.loaded(ALL);
        Checks.same("makeList of all boxes", all.makeList(), 24);
        Checks.same("strike of one", all.strike(11, 20), 2002);
        Checks.same("approveList of the others", all.approveList(), 23);
        Checks.same("makeList", all.makeList(), 0);
        all.passYears(2);
        Checks.same("makeList of the one", all.makeList(), 1);
        Checks.same("approveList of the one", all.approveList(), 1);
        Checks.same("freePlaces", all.freePlaces(), 48);
    }

    /** "An object is used for at most 512 calls": the last one is answered like the first. */
    private static void fiveHundredAndTwelveCalls() {
        RetentionArchive x = Checks.loaded("archive 2500 1 1");
        for (int calls = 3; calls <= 511; calls++) {
            Checks.same("passYears", x.passYears(50), 0);
        }
        Checks.same("year, the 512th call", x.year(), 2500 + 509 * 50);
    }
}
