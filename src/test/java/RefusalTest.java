import java.lang.reflect.Method;
import java.util.Arrays;
import java.util.function.Consumer;
import java.util.function.Supplier;

/** Section 7: each refused call throws the exception that is listed first among those that apply, and changes nothing. */
final class RefusalTest {
    private static final int LEAST = Integer.MIN_VALUE;
    private static final int MOST = Integer.MAX_VALUE;
    private static final String STATE = "IllegalStateException";
    private static final String INDEX = "IndexOutOfBoundsException";
    private static final String ARGUMENT = "IllegalArgumentException";

    private RefusalTest() {
    }

    static void run() {
        numbersThatDoNotExist();
        numbersOfShelvesAndPlaces();
        positionsOfTheList();
        textBytes();
        slots();
        rangesOfPredictions();
        passYears();
        addBox();
        addBoxWithoutRoom();
        moveBox();
        seal();
        request();
        giveBack();
        strike();
        undo();
        restore();
        loadOfALengthOutsideTheBuffer();
        loadOfAWrongText();
        missingArchiveComesFirst();
        missingNumberComesFirst();
    }

    /**
     * In 2001 all 8 changes can be undone, both slots are used, an error and 20 bytes are stored, and a text is written.
     * Box 0 is destroyed, box 1 is lent with a full queue, box 2 is sealed, box 3 is neither open nor due, box 4 has no
     * obstacle, box 5 is permanent; the list holds boxes 1 and 4. Reader 4 has box 1; readers 0 to 2 wait for it.
     */
    private static RetentionArchive busy() {
        RetentionArchive x = Checks.loaded("archive 2000 2 5;class tax 10 0;class maps 50 9 forever;class law 10 5;"
                + "reader a 1;reader b 1;reader c 1;reader d 1;reader e 4;box 0 1980;list;approve;box 0 1980;box 0 1981;"
                + "box 2 1999;box 0 1982;box 1 1980");
        Checks.thrownBy(() -> Checks.load(x, "archive 2000 1 1 zap"));
        x.seal(4, 2000);
        x.passYears(1);
        x.seal(2, 2005);
        x.request(4, 1);
        x.request(0, 1);
        x.request(1, 1);
        x.save(0);
        x.request(2, 1);
        x.moveBox(4, 1, 4);
        x.makeList();
        x.writeList();
        x.save(1);
        Checks.append(x, "archive 1999 1 1");
        return x;
    }

    private static RetentionArchive afterLoad() {
        RetentionArchive x = Checks.loaded("archive 2000 2 3;class tax 10 2;box 0 1990");
        Checks.append(x, "zap");
        return x;
    }

    /** Two objects are made alike, and one of them gets the refused call. */
    private static void refused(Supplier<RetentionArchive> maker, String due, String what, Consumer<RetentionArchive> call) {
        RetentionArchive x = maker.get();
        Checks.same(what + " throws", Checks.thrownBy(() -> call.accept(x)), due);
        Checks.same(what + " changes nothing", Checks.whole(x), Checks.whole(maker.get()));
    }

    private static void refused(String due, String what, Consumer<RetentionArchive> call) {
        refused(RefusalTest::busy, due, what, call);
    }

    /** "IndexOutOfBoundsException is thrown if a record class, box, reader ... does not exist." */
    private static void numbersThatDoNotExist() {
        for (int number : new int[] {LEAST, -1, 3, 8, MOST}) {
            refused(INDEX, "classLetter(" + number + ", 0)", x -> x.classLetter(number, 0));
            refused(INDEX, "period(" + number + ")", x -> x.period(number));
            refused(INDEX, "closedPeriod(" + number + ")", x -> x.closedPeriod(number));
            refused(INDEX, "isPermanent(" + number + ")", x -> x.isPermanent(number));
        }
        for (int number : new int[] {LEAST, -1, 5, 6, MOST}) {
            refused(INDEX, "readerLetter(" + number + ", 0)", x -> x.readerLetter(number, 0));
            refused(INDEX, "loanLimit(" + number + ")", x -> x.loanLimit(number));
            refused(INDEX, "loansOf(" + number + ")", x -> x.loansOf(number));
            refused(INDEX, "requestObstacle(" + number + ", 1)", x -> x.requestObstacle(number, 1));
        }
        for (int number : new int[] {LEAST, -1, 6, 24, MOST}) {
            refused(INDEX, "classOf(" + number + ")", x -> x.classOf(number));
            refused(INDEX, "closingYear(" + number + ")", x -> x.closingYear(number));
            refused(INDEX, "shelfOf(" + number + ")", x -> x.shelfOf(number));
            refused(INDEX, "placeOf(" + number + ")", x -> x.placeOf(number));
            refused(INDEX, "isDestroyed(" + number + ")", x -> x.isDestroyed(number));
            refused(INDEX, "isSealed(" + number + ")", x -> x.isSealed(number));
            refused(INDEX, "sealedUntil(" + number + ")", x -> x.sealedUntil(number));
            refused(INDEX, "borrower(" + number + ")", x -> x.borrower(number));
            refused(INDEX, "loanYear(" + number + ")", x -> x.loanYear(number));
            refused(INDEX, "dueYear(" + number + ")", x -> x.dueYear(number));
            refused(INDEX, "postponement(" + number + ")", x -> x.postponement(number));
            refused(INDEX, "destructionObstacle(" + number + ")", x -> x.destructionObstacle(number));
            refused(INDEX, "requestObstacle(0, " + number + ")", x -> x.requestObstacle(0, number));
            refused(INDEX, "waitingReaders(" + number + ")", x -> x.waitingReaders(number));
            refused(INDEX, "nextReader(" + number + ")", x -> x.nextReader(number));
            refused(INDEX, "writeMark(" + number + ")", x -> x.writeMark(number));
        }
    }

    /** "... shelf, place ... does not exist." */
    private static void numbersOfShelvesAndPlaces() {
        for (int number : new int[] {LEAST, -1, 2, 6, MOST}) {
            refused(INDEX, "boxAt(" + number + ", 0)", x -> x.boxAt(number, 0));
            refused(INDEX, "writeShelf(" + number + ")", x -> x.writeShelf(number));
        }
        for (int number : new int[] {LEAST, -1, 5, 8, MOST}) {
            refused(INDEX, "boxAt(0, " + number + ")", x -> x.boxAt(0, number));
            refused(INDEX, "boxAt(1, " + number + ")", x -> x.boxAt(1, number));
        }
    }

    /** "... position of the list ... does not exist." */
    private static void positionsOfTheList() {
        for (int position : new int[] {LEAST, -1, 2, 24, MOST}) {
            refused(INDEX, "listedBox(" + position + ")", x -> x.listedBox(position));
        }
        refused(RefusalTest::afterLoad, INDEX, "listedBox(0) of an empty list", x -> x.listedBox(0));
    }

    /** "if there is no byte at this index; always before a text has been written" */
    private static void textBytes() {
        for (int index : new int[] {LEAST, -1, 13, 14, MOST}) {
            refused(INDEX, "textByte(" + index + ")", x -> x.textByte(index));
            refused(RetentionArchive::new, INDEX, "textByte(" + index + ") of a new object", x -> x.textByte(index));
        }
        for (int index = -1; index <= 1; index++) {
            int at = index;
            refused(RefusalTest::afterLoad, INDEX, "textByte(" + at + ") ahead of a text", x -> x.textByte(at));
        }
    }

    /** "... or slot does not exist." */
    private static void slots() {
        for (int slot : new int[] {LEAST, -1, 2, 3, MOST}) {
            refused(INDEX, "save(" + slot + ")", x -> x.save(slot));
            refused(INDEX, "restore(" + slot + ")", x -> x.restore(slot));
        }
    }

    /** "number of years, 0 to 100", "number of places, 1 to 48" */
    private static void rangesOfPredictions() {
        for (int years : new int[] {LEAST, -1, 101, MOST}) {
            refused(ARGUMENT, "destroyableAfter(" + years + ")", x -> x.destroyableAfter(years));
            refused(ARGUMENT, "freeAfter(" + years + ")", x -> x.freeAfter(years));
        }
        for (int count : new int[] {LEAST, -1, 0, 49, MOST}) {
            refused(ARGUMENT, "yearsUntilFree(" + count + ")", x -> x.yearsUntilFree(count));
        }
    }

    /** "number of years, 1 to 50" */
    private static void passYears() {
        for (int years : new int[] {LEAST, -1, 0, 51, MOST}) {
            refused(ARGUMENT, "passYears(" + years + ")", x -> x.passYears(years));
        }
    }

    /** "if closingYear is out of range" */
    private static void addBox() {
        for (int year : new int[] {LEAST, -1, 0, 1799, 2002, MOST}) {
            refused(ARGUMENT, "addBox(0, " + year + ")", x -> x.addBox(0, year));
        }
        for (int number : new int[] {LEAST, -1, 3, 8, MOST}) {
            refused(INDEX, "addBox(" + number + ", 2001)", x -> x.addBox(number, 2001));
        }
    }

    private static RetentionArchive withoutAFreePlace() {
        RetentionArchive x = Checks.loaded("archive 2000 1 2;class a 1 0;box 0 1990;box 0 1990");
        x.passYears(1);
        return x;
    }

    private static RetentionArchive withAllBoxes() {
        RetentionArchive x = Checks.loaded("archive 2000 6 8;class a 1 0;repeat 8(box 0 1990;box 0 1990;box 0 1990)");
        x.makeList();
        x.approveList();
        return x;
    }

    /** "there are 24 boxes, or no place is free" */
    private static void addBoxWithoutRoom() {
        refused(RefusalTest::withoutAFreePlace, ARGUMENT, "addBox without a free place", x -> x.addBox(0, 1990));
        refused(RefusalTest::withAllBoxes, ARGUMENT, "addBox of a twenty-fifth box", x -> x.addBox(0, 1990));
        refused(RefusalTest::withoutAFreePlace, INDEX, "addBox without a place and class", x -> x.addBox(1, 1990));
        refused(RefusalTest::withAllBoxes, INDEX, "addBox of a twenty-fifth box without a class", x -> x.addBox(-1, 1));
    }

    /** "if the box is destroyed, or the place is not free" */
    private static void moveBox() {
        refused(ARGUMENT, "moveBox of a destroyed box", x -> x.moveBox(0, 1, 3));
        refused(ARGUMENT, "moveBox of a destroyed box to a taken place", x -> x.moveBox(0, 0, 0));
        refused(ARGUMENT, "moveBox to another box's place", x -> x.moveBox(5, 0, 1));
        refused(ARGUMENT, "moveBox to a lent box's place", x -> x.moveBox(5, 0, 0));
        refused(ARGUMENT, "moveBox to its own place", x -> x.moveBox(5, 0, 4));
        for (int number : new int[] {LEAST, -1, 6, 24, MOST}) {
            refused(INDEX, "moveBox(" + number + ", 1, 3)", x -> x.moveBox(number, 1, 3));
        }
        for (int number : new int[] {LEAST, -1, 2, 6, MOST}) {
            refused(INDEX, "moveBox(5, " + number + ", 3)", x -> x.moveBox(5, number, 3));
        }
        for (int number : new int[] {LEAST, -1, 5, 8, MOST}) {
            refused(INDEX, "moveBox(5, 0, " + number + ")", x -> x.moveBox(5, 0, number));
            refused(INDEX, "moveBox(5, 1, " + number + ")", x -> x.moveBox(5, 1, number));
        }
    }

    /** "if lastYear is out of range, or the box is destroyed" */
    private static void seal() {
        for (int year : new int[] {LEAST, -1, 0, 2000, 10000, MOST}) {
            refused(ARGUMENT, "seal(5, " + year + ")", x -> x.seal(5, year));
            refused(ARGUMENT, "seal(0, " + year + ")", x -> x.seal(0, year));
        }
        refused(ARGUMENT, "seal of a destroyed box", x -> x.seal(0, 2001));
        for (int number : new int[] {LEAST, -1, 6, 24, MOST}) {
            refused(INDEX, "seal(" + number + ", 2001)", x -> x.seal(number, 2001));
        }
    }

    /** "if there is an obstacle" */
    private static void request() {
        refused(ARGUMENT, "request of a destroyed box", x -> x.request(4, 0));
        refused(ARGUMENT, "request of a sealed box", x -> x.request(4, 2));
        refused(ARGUMENT, "request of a box that is not open", x -> x.request(4, 3));
        refused(ARGUMENT, "request of the reader's own box", x -> x.request(4, 1));
        refused(ARGUMENT, "request of the first reader who waits", x -> x.request(0, 1));
        refused(ARGUMENT, "request of the last reader who waits", x -> x.request(2, 1));
        refused(ARGUMENT, "request with a full queue", x -> x.request(3, 1));
        for (int number : new int[] {LEAST, -1, 5, 6, MOST}) {
            refused(INDEX, "request(" + number + ", 4)", x -> x.request(number, 4));
        }
        for (int number : new int[] {LEAST, -1, 6, 24, MOST}) {
            refused(INDEX, "request(3, " + number + ")", x -> x.request(3, number));
        }
    }

    /** "if the box is not lent" */
    private static void giveBack() {
        for (int box : new int[] {0, 2, 3, 4, 5}) {
            refused(ARGUMENT, "giveBack(" + box + ")", x -> x.giveBack(box));
        }
        for (int number : new int[] {LEAST, -1, 6, 24, MOST}) {
            refused(INDEX, "giveBack(" + number + ")", x -> x.giveBack(number));
        }
    }

    /** "if years is out of range, or the box is not on the list" */
    private static void strike() {
        for (int years : new int[] {LEAST, -1, 0, 21, MOST}) {
            refused(ARGUMENT, "strike(4, " + years + ")", x -> x.strike(4, years));
            refused(ARGUMENT, "strike(5, " + years + ")", x -> x.strike(5, years));
        }
        for (int box : new int[] {0, 2, 3, 5}) {
            refused(ARGUMENT, "strike(" + box + ", 1)", x -> x.strike(box, 1));
        }
        for (int number : new int[] {LEAST, -1, 6, 24, MOST}) {
            refused(INDEX, "strike(" + number + ", 1)", x -> x.strike(number, 1));
        }
    }

    private static RetentionArchive allUndone() {
        RetentionArchive x = busy();
        for (int i = 0; i < 8; i++) {
            x.undo();
        }
        return x;
    }

    /** "if there is no change to undo" */
    private static void undo() {
        refused(RetentionArchive::new, STATE, "undo of a new object", RetentionArchive::undo);
        refused(RefusalTest::afterLoad, STATE, "undo after load", RetentionArchive::undo);
        refused(RefusalTest::allUndone, STATE, "undo of a ninth change", RetentionArchive::undo);
    }

    private static RetentionArchive withOneSlot(int slot) {
        RetentionArchive x = afterLoad();
        x.passYears(1);
        x.save(slot);
        x.passYears(1);
        return x;
    }

    /** "if no state is saved in the slot" */
    private static void restore() {
        for (int slot = 0; slot < 2; slot++) {
            int number = slot;
            refused(RetentionArchive::new, STATE, "restore(" + slot + ") of a new object", x -> x.restore(number));
            refused(RefusalTest::afterLoad, STATE, "restore(" + slot + ") after load", x -> x.restore(number));
            refused(() -> withOneSlot(1 - number), STATE, "restore(" + slot + ") with the other slot", x -> x.restore(number));
        }
    }

    /** "if length is negative or greater than the buffer length; the buffer and the stored error remain" */
    private static void loadOfALengthOutsideTheBuffer() {
        for (int length : new int[] {LEAST, -1, 21, 600, 601, MOST}) {
            refused(INDEX, "load(" + length + ")", x -> x.load(length));
            refused(RefusalTest::afterLoad, INDEX, "load(" + length + ") after success", x -> x.load(length));
            refused(RetentionArchive::new, INDEX, "load(" + length + ") of a new object", x -> x.load(length));
        }
        refused(RetentionArchive::new, INDEX, "load(1) of an empty buffer", x -> x.load(1));
    }

    /** "if the text has an error; the previous archive remains, and parseError() and errorPosition() describe the error" */
    private static void loadOfAWrongText() {
        int[] codes = {1, 1, 1, 1, 1, 1, 1, 1, 1, 2, 2, 2, 1, 1, 1, 1};
        int[] positions = {0, 0, 0, 0, 0, 0, 0, 7, 8, 8, 8, 8, 12, 13, 14, 15};
        for (int length = 0; length <= 15; length++) {
            RetentionArchive x = busy();
            int parsed = length;
            Checks.throwsArgument("load(" + length + ") of a part", () -> x.load(parsed));
            Checks.same("parseError", x.parseError(), codes[length]);
            Checks.same("errorPosition", x.errorPosition(), positions[length]);
            Checks.same("bufferLength", x.bufferLength(), 0);
            Checks.same("the archive after load(" + length + ")", Checks.archiveOf(x), Checks.archiveOf(busy()));
        }
    }

    /** "IllegalStateException is thrown if no text has been loaded yet", ahead of all that is wrong with the numbers. */
    private static void missingArchiveComesFirst() {
        for (Method method : Calls.PROGRAM.values()) {
            Class<?>[] thrown = method.getExceptionTypes();
            if (thrown.length > 0 && thrown[0] == IllegalStateException.class) {
                for (int number : new int[] {LEAST, -1, 0, 1, 2001, MOST}) {
                    withoutAnArchive(method.getName(), method.getParameterCount(), number);
                }
            }
        }
        refused(RetentionArchive::new, INDEX, "restore(2), which lists the slot first", x -> x.restore(2));
        refused(RetentionArchive::new, INDEX, "load(-1), which lists the length first", x -> x.load(-1));
    }

    private static void withoutAnArchive(String name, int count, int number) {
        Object[] arguments = new Object[count];
        Arrays.fill(arguments, number);
        for (String text : new String[] {"", "archive 2000 1 9"}) {
            RetentionArchive x = new RetentionArchive();
            RetentionArchive twin = new RetentionArchive();
            Calls.load(x, text);
            Calls.load(twin, text);
            Checks.same(name + " of " + number + " throws", Calls.answer(x, name, arguments), "java.lang." + STATE);
            Checks.same(name + " of " + number + " changes nothing", Checks.whole(x), Checks.whole(twin));
        }
    }

    /** "If several exceptions apply to a call, the one that is listed first in its documentation is thrown." */
    private static void missingNumberComesFirst() {
        for (int number : new int[] {LEAST, -1, 6, MOST}) {
            refused(INDEX, "addBox of no class in no year", x -> x.addBox(number, 1799));
            refused(INDEX, "moveBox of no box to a taken place", x -> x.moveBox(number, 0, 0));
            refused(INDEX, "moveBox of a destroyed box to no shelf", x -> x.moveBox(0, number, 0));
            refused(INDEX, "moveBox of a destroyed box to no place", x -> x.moveBox(0, 0, number));
            refused(INDEX, "seal of no box until no year", x -> x.seal(number, 2000));
            refused(INDEX, "request of no reader for a destroyed box", x -> x.request(number, 0));
            refused(INDEX, "strike of no box by no years", x -> x.strike(number, 0));
            refused(INDEX, "load of no length of a wrong text", x -> x.load(number == 6 ? 21 : number));
        }
        refused(RefusalTest::allUndone, INDEX, "restore of no slot", x -> x.restore(2));
    }
}
