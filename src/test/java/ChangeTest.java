/** Promises 53 to 65: changes, undo, save and restore. */
final class ChangeTest {
    private static final String TEXT = "archive 2000 2 3;class tax 10 0;class maps 5 0 forever;reader ann 1;reader bob 2;"
            + "box 0 1980;box 1 1990;box 0 1995";

    private ChangeTest() {
    }

    static void run() {
        addBox();
        addBoxIsRefused();
        moveBox();
        seal();
        everyChangeCanBeUndone();
        eightChangesCanBeUndone();
        changesAfterUndo();
        changesWithoutADifferenceCount();
        otherCallsAreNoChanges();
        saveAndRestore();
        slotsAreWrong();
    }

    private static void addBox() {
        RetentionArchive x = Checks.loaded(TEXT);
        Checks.same("addBox", x.addBox(0, 1800), 3);
        Checks.same("the new box", Checks.box(x, 3), "box 0 1800 at 1,0 0 lent -1/-1 due 1811/0 obstacle 0 waiting 0/-1");
        Checks.same("addBox", x.addBox(1, 2000), 4);
        Checks.same("the new box", Checks.box(x, 4), "box 1 2000 at 1,1 0 lent -1/-1 due 2006/0 obstacle 2 waiting 0/-1");
        x.moveBox(1, 1, 2);
        Checks.same("addBox", x.addBox(0, 1999), 5);
        Checks.same("the first free place", x.boxAt(0, 1), 5);
        x.passYears(1);
        x.makeList();
        x.approveList();
        Checks.same("addBox at a destroyed box's place", x.addBox(0, 2001), 6);
        Checks.same("placeOf", x.placeOf(6), 0);
        Checks.same("inconsistencies", x.inconsistencies(), 0);
    }

    private static void addBoxIsRefused() {
        RetentionArchive x = Checks.loaded(TEXT);
        for (int number : new int[] {-1, 2, 8, Integer.MIN_VALUE, Integer.MAX_VALUE}) {
            Checks.refusesIndex(x, "addBox(" + number + ", 1990)", () -> x.addBox(number, 1990));
            Checks.refusesIndex(x, "addBox(" + number + ", 1)", () -> x.addBox(number, 1));
        }
        for (int year : new int[] {-1, 0, 1799, 2001, Integer.MIN_VALUE, Integer.MAX_VALUE}) {
            Checks.refusesArgument(x, "addBox(0, " + year + ")", () -> x.addBox(0, year));
        }
        x.addBox(0, 2000);
        x.addBox(0, 2000);
        x.addBox(0, 2000);
        Checks.refusesArgument(x, "addBox without a free place", () -> x.addBox(0, 2000));
        Checks.refusesIndex(x, "addBox without a free place and class", () -> x.addBox(2, 2000));
        RetentionArchive y = Checks.loaded("archive 2000 6 8;class a 1 0;repeat 8(box 0 1990;box 0 1990);repeat 7(box 0 1999)");
        Checks.same("the twenty-fourth box", y.addBox(0, 1999), 23);
        Checks.refusesArgument(y, "a twenty-fifth box", () -> y.addBox(0, 1999));
        y.makeList();
        y.approveList();
        Checks.refusesArgument(y, "a twenty-fifth box after destruction", () -> y.addBox(0, 1999));
    }

    private static void moveBox() {
        RetentionArchive x = Checks.loaded(TEXT);
        Checks.same("moveBox", x.moveBox(2, 1, 2), 2);
        Checks.same("shelfOf", x.shelfOf(2), 1);
        Checks.same("placeOf", x.placeOf(2), 2);
        Checks.same("boxAt the old place", x.boxAt(0, 2), -1);
        Checks.same("moveBox", x.moveBox(2, 0, 2), 5);
        x.request(0, 0);
        Checks.same("moveBox of a lent box", x.moveBox(0, 1, 0), 0);
        x.seal(1, 2005);
        Checks.same("moveBox of a sealed box", x.moveBox(1, 0, 0), 1);
        for (int number : new int[] {-1, 3, Integer.MIN_VALUE, Integer.MAX_VALUE}) {
            Checks.refusesIndex(x, "moveBox of box " + number, () -> x.moveBox(number, 1, 1));
            Checks.refusesIndex(x, "moveBox to shelf " + number, () -> x.moveBox(0, number, 1));
            Checks.refusesIndex(x, "moveBox to place " + number, () -> x.moveBox(0, 1, number));
        }
        Checks.refusesIndex(x, "moveBox to shelf 2", () -> x.moveBox(0, 2, 0));
        Checks.refusesArgument(x, "moveBox to another box's place", () -> x.moveBox(0, 0, 0));
        Checks.refusesArgument(x, "moveBox to its own place", () -> x.moveBox(0, 1, 0));
        x.giveBack(0);
        x.makeList();
        x.approveList();
        Checks.refusesArgument(x, "moveBox of a destroyed box", () -> x.moveBox(0, 1, 1));
        Checks.refusesIndex(x, "moveBox of a destroyed box to no place", () -> x.moveBox(0, 1, 3));
        Checks.same("moveBox to a destroyed box's place", x.moveBox(1, 1, 0), 0);
    }

    private static void seal() {
        RetentionArchive x = Checks.loaded(TEXT);
        Checks.same("seal", x.seal(0, 2000), 0);
        Checks.same("isSealed", x.isSealed(0), true);
        Checks.same("seal in place of another", x.seal(0, 9999), 2000);
        Checks.same("seal in place of a longer one", x.seal(0, 2001), 9999);
        Checks.same("sealedUntil", x.sealedUntil(0), 2001);
        x.passYears(3);
        Checks.same("seal in place of one that is over", x.seal(0, 2003), 2001);
        for (int box : new int[] {-1, 3, 24, Integer.MIN_VALUE, Integer.MAX_VALUE}) {
            Checks.refusesIndex(x, "seal(" + box + ", 2010)", () -> x.seal(box, 2010));
            Checks.refusesIndex(x, "seal(" + box + ", 0)", () -> x.seal(box, 0));
        }
        for (int year : new int[] {-1, 0, 2002, 10000, Integer.MIN_VALUE, Integer.MAX_VALUE}) {
            Checks.refusesArgument(x, "seal(0, " + year + ")", () -> x.seal(0, year));
        }
        x.passYears(1);
        x.makeList();
        x.approveList();
        Checks.refusesArgument(x, "seal of a destroyed box", () -> x.seal(0, 2010));
    }

    private static void undoes(RetentionArchive x, String what, Checks.Call change) {
        String before = Checks.state(x);
        int count = x.undoable();
        change.run();
        Checks.same("undoable after " + what, x.undoable(), Math.min(count + 1, 8));
        String after = Checks.state(x);
        Checks.same("undo of " + what, x.undo(), Math.min(count, 7));
        Checks.same("the state after undo of " + what, Checks.state(x), before);
        change.run();
        Checks.same("the state after " + what + " once more", Checks.state(x), after);
    }

    private static void everyChangeCanBeUndone() {
        RetentionArchive x = Checks.loaded(TEXT);
        undoes(x, "addBox", () -> x.addBox(0, 1985));
        undoes(x, "request", () -> x.request(0, 0));
        undoes(x, "request that waits", () -> x.request(1, 0));
        undoes(x, "giveBack", () -> x.giveBack(0));
        undoes(x, "passYears", () -> x.passYears(3));
        undoes(x, "moveBox", () -> x.moveBox(0, 1, 2));
        undoes(x, "makeList", x::makeList);
        undoes(x, "strike", () -> x.strike(0, 5));
        undoes(x, "seal", () -> x.seal(1, 2010));
        undoes(x, "approveList", x::approveList);
    }

    private static void eightChangesCanBeUndone() {
        RetentionArchive x = Checks.loaded(TEXT);
        Checks.same("undoable", x.undoable(), 0);
        Checks.throwsState("undo", x::undo);
        for (int years = 1; years <= 11; years++) {
            x.passYears(1);
            Checks.same("undoable", x.undoable(), Math.min(years, 8));
        }
        for (int left = 7; left >= 0; left--) {
            Checks.same("undo", x.undo(), left);
            Checks.same("year", x.year(), 2003 + left);
            Checks.same("undoable", x.undoable(), left);
        }
        Checks.refusesState(x, "undo of a ninth change", x::undo);
        Checks.same("year", x.year(), 2003);
    }

    private static void changesAfterUndo() {
        RetentionArchive x = Checks.loaded(TEXT);
        for (int years = 1; years <= 10; years++) {
            x.passYears(1);
        }
        x.undo();
        x.undo();
        x.undo();
        Checks.same("year", x.year(), 2007);
        x.passYears(50);
        Checks.same("undoable", x.undoable(), 6);
        Checks.same("undo", x.undo(), 5);
        Checks.same("year", x.year(), 2007);
        for (int left = 4; left >= 0; left--) {
            Checks.same("undo", x.undo(), left);
        }
        Checks.same("year", x.year(), 2002);
        Checks.throwsState("undo", x::undo);
    }

    private static void changesWithoutADifferenceCount() {
        RetentionArchive x = Checks.loaded("archive 2000 1 1");
        x.makeList();
        x.approveList();
        Checks.same("undoable", x.undoable(), 2);
        Checks.same("undo", x.undo(), 1);
        Checks.throwsArgument("passYears(0)", () -> x.passYears(0));
        Checks.same("undoable after a call that throws", x.undoable(), 1);
    }

    private static void otherCallsAreNoChanges() {
        RetentionArchive x = Checks.loaded(TEXT);
        x.passYears(1);
        x.save(0);
        x.writeShelf(0);
        x.append(1, 2, 3, 4, 5);
        Checks.same("undoable", x.undoable(), 1);
        Checks.same("undo", x.undo(), 0);
        Checks.same("the input buffer after undo", x.bufferLength(), 20);
        Checks.same("the slot after undo", x.restore(0), 2001);
        Checks.same("the input buffer after restore", x.bufferLength(), 20);
        Checks.throwsArgument("load of a wrong text", () -> x.load(3));
        x.passYears(1);
        x.undo();
        x.restore(0);
        Checks.same("the error after undo and restore", x.parseError(), 1);
        Checks.same("the position after undo and restore", x.errorPosition(), 0);
    }

    private static void saveAndRestore() {
        RetentionArchive x = Checks.loaded(TEXT);
        x.request(0, 0);
        x.request(1, 0);
        x.seal(2, 2003);
        x.makeList();
        Checks.same("save(0)", x.save(0), 2000);
        String first = Checks.state(x);
        x.passYears(7);
        x.makeList();
        x.approveList();
        x.addBox(1, 2007);
        Checks.same("save(1)", x.save(1), 2007);
        String second = Checks.state(x);
        Checks.same("undoable after save", x.undoable(), 8);
        Checks.same("restore(0)", x.restore(0), 2000);
        Checks.same("the restored state", Checks.state(x), first);
        Checks.same("undoable after restore", x.undoable(), 0);
        Checks.throwsState("undo after restore", x::undo);
        x.passYears(1);
        Checks.same("undo of a change after restore", x.undo(), 0);
        Checks.same("the state after that undo", Checks.state(x), first);
        x.moveBox(0, 1, 2);
        Checks.same("restore(1)", x.restore(1), 2007);
        Checks.same("the restored state", Checks.state(x), second);
        Checks.same("restore(0) once more", x.restore(0), 2000);
        Checks.same("the restored state", Checks.state(x), first);
        x.passYears(2);
        Checks.same("save(0) in place of another", x.save(0), 2002);
        x.restore(1);
        Checks.same("restore(0) of the newer state", x.restore(0), 2002);
    }

    private static void slotsAreWrong() {
        RetentionArchive x = Checks.loaded(TEXT);
        x.passYears(1);
        for (int slot : new int[] {-1, 2, 3, Integer.MIN_VALUE, Integer.MAX_VALUE}) {
            Checks.refusesIndex(x, "save(" + slot + ")", () -> x.save(slot));
            Checks.refusesIndex(x, "restore(" + slot + ")", () -> x.restore(slot));
        }
        x.save(1);
        Checks.refusesState(x, "restore of an empty slot", () -> x.restore(0));
        Checks.same("undoable", x.undoable(), 1);
    }
}
