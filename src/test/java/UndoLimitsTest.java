import java.util.ArrayDeque;
import java.util.Deque;
import java.util.List;
import java.util.Random;
import java.util.function.Consumer;

/** Section 7 and promises 62 to 65 at their limits: undo, slots, and what they leave alone. */
final class UndoLimitsTest {
    private static final String TEXT = "archive 2000 2 4;class tax 10 0;class maps 5 0 forever;reader ann 1;reader bob 2;"
            + "box 0 1980;box 1 1990;box 0 1985;box 0 1986";

    private UndoLimitsTest() {
    }

    static void run() {
        eightChanges();
        nineKindsOfChanges();
        changesThatDifferInNothing();
        callsThatAreNoChanges();
        mostRecentFirst();
        aChangeAfterUndo();
        overAndOverAgain();
        nothingToUndoAfterLoad();
        nothingToUndoAfterRestore();
        refusedCallsKeepTheChanges();
        inputStaysAtUndo();
        writtenTextRemains();
        undoableOfANewObject();
        savedStates();
        savingReplaces();
        statesWithoutTheirChanges();
        stateRemainsSaved();
        slotsAfterLoad();
    }

    /** "The 8 most recent changes ... can be undone" */
    private static void eightChanges() {
        for (int changes = 0; changes <= 20; changes++) {
            RetentionArchive x = Checks.loaded(TEXT);
            for (int i = 0; i < changes; i++) {
                x.passYears(1);
            }
            int most = Math.min(changes, 8);
            for (int undone = 0; undone < most; undone++) {
                Checks.same("undoable", x.undoable(), most - undone);
                Checks.same("undo", x.undo(), most - undone - 1);
                Checks.same("year", x.year(), 2000 + changes - undone - 1);
            }
            Checks.same("undoable", x.undoable(), 0);
            Checks.refusesState(x, "undo of change " + (changes - 8), x::undo);
        }
    }

    private static List<Consumer<RetentionArchive>> changes() {
        return List.of(x -> x.request(0, 0), x -> x.request(1, 0), x -> x.giveBack(0), x -> x.addBox(0, 2000),
                x -> x.moveBox(4, 1, 3), x -> x.seal(1, 2000), RetentionArchive::makeList, x -> x.strike(2, 3),
                RetentionArchive::approveList, x -> x.passYears(50));
    }

    /** "The methods in the last group below are changes." */
    private static void nineKindsOfChanges() {
        RetentionArchive x = Checks.loaded(TEXT);
        Deque<String> states = new ArrayDeque<>();
        for (Consumer<RetentionArchive> change : changes()) {
            String before = Checks.state(x);
            states.push(before);
            change.accept(x);
            Checks.same("the change shows", Checks.state(x).equals(before), false);
            Checks.same("undoable", x.undoable(), Math.min(states.size(), 8));
        }
        for (int left = 7; left >= 0; left--) {
            Checks.same("undo", x.undo(), left);
            Checks.same("the state before", Checks.state(x), states.pop());
        }
    }

    /** "A successful call of a change counts even if nothing differs afterwards." */
    private static void changesThatDifferInNothing() {
        List<Consumer<RetentionArchive>> same = List.of(RetentionArchive::approveList, RetentionArchive::makeList,
                x -> x.seal(1, 2009));
        for (Consumer<RetentionArchive> change : same) {
            RetentionArchive x = Checks.loaded("archive 2000 1 2;class maps 5 0 forever;box 0 1990;box 0 1990;seal 1 2009");
            x.passYears(1);
            String before = Checks.state(x);
            change.accept(x);
            Checks.same("the state", Checks.state(x), before);
            Checks.same("undoable", x.undoable(), 2);
            Checks.same("undo", x.undo(), 1);
            Checks.same("the state after undo", Checks.state(x), before);
        }
    }

    private static void callsThatAreNoChanges() {
        RetentionArchive x = Checks.loaded(TEXT);
        x.passYears(1);
        x.makeList();
        String all = Checks.picture(x);
        x.save(0);
        x.save(1);
        x.undoable();
        x.destroyableAfter(100);
        x.freeAfter(100);
        x.yearsUntilFree(48);
        Checks.same("nothing counts or differs", Checks.picture(x), all);
        x.writeMark(0);
        x.writeShelf(0);
        x.writeList();
        x.append(0, 0, 0, 0, 0);
        Checks.same("undoable", x.undoable(), 2);
    }

    /** "the most recent one first", "the most recent change that has not been undone" */
    private static void mostRecentFirst() {
        RetentionArchive x = Checks.loaded(TEXT);
        x.passYears(1);
        x.passYears(2);
        x.passYears(4);
        Checks.same("undo", x.undo(), 2);
        Checks.same("the third change is undone", x.year(), 2003);
        x.passYears(8);
        Checks.same("undo", x.undo(), 2);
        Checks.same("the fourth change is undone", x.year(), 2003);
        Checks.same("undo", x.undo(), 1);
        Checks.same("the second change is undone", x.year(), 2001);
        Checks.same("undo", x.undo(), 0);
        Checks.same("the first change is undone", x.year(), 2000);
    }

    private static void aChangeAfterUndo() {
        RetentionArchive x = Checks.loaded(TEXT);
        for (int i = 0; i < 8; i++) {
            x.passYears(1);
        }
        x.undo();
        x.passYears(5);
        Checks.same("undoable after 8 changes, an undo and a change", x.undoable(), 8);
        x.passYears(5);
        Checks.same("undoable after one more", x.undoable(), 8);
        for (int i = 0; i < 8; i++) {
            x.undo();
        }
        Checks.same("the first change cannot be undone any more", x.year(), 2001);
        Checks.throwsState("undo", x::undo);
    }

    /** Changes and undos by turns, so that the room for the 8 states is gone round many times. */
    private static void overAndOverAgain() {
        Random random = new Random(8);
        RetentionArchive x = Checks.loaded(TEXT);
        Deque<Integer> years = new ArrayDeque<>();
        for (int i = 0; i < 400; i++) {
            if (random.nextInt(9) < 5) {
                years.addLast(x.year());
                x.passYears(1 + random.nextInt(3));
                if (years.size() > 8) {
                    years.removeFirst();
                }
            } else if (years.isEmpty()) {
                Checks.throwsState("undo", x::undo);
            } else {
                Checks.same("undo", x.undo(), years.size() - 1);
                Checks.same("year", x.year(), years.removeLast());
            }
            Checks.same("undoable", x.undoable(), years.size());
        }
    }

    /** "since the last successful call of load()": "nothing can be undone" */
    private static void nothingToUndoAfterLoad() {
        RetentionArchive x = Checks.loaded(TEXT);
        for (int i = 0; i < 9; i++) {
            x.passYears(1);
        }
        Checks.load(x, TEXT);
        Checks.same("undoable", x.undoable(), 0);
        Checks.refusesState(x, "undo after load", x::undo);
        x.passYears(1);
        Checks.same("undoable after a change", x.undoable(), 1);
        Checks.same("undo", x.undo(), 0);
        Checks.same("year", x.year(), 2000);
    }

    /** "or restore()": "nothing can be undone afterwards" */
    private static void nothingToUndoAfterRestore() {
        for (int slot = 0; slot < 2; slot++) {
            RetentionArchive x = Checks.loaded(TEXT);
            x.passYears(1);
            x.save(slot);
            x.passYears(1);
            Checks.same("restore", x.restore(slot), 2001);
            Checks.same("undoable", x.undoable(), 0);
            Checks.refusesState(x, "undo after restore", x::undo);
            x.passYears(1);
            Checks.same("undo", x.undo(), 0);
            Checks.same("year", x.year(), 2001);
        }
    }

    /** Neither a text with an error nor a slot without a state takes the changes away. */
    private static void refusedCallsKeepTheChanges() {
        RetentionArchive x = Checks.loaded(TEXT);
        x.passYears(1);
        x.passYears(1);
        Checks.throwsArgument("load of a wrong text", () -> Checks.load(x, "archive 2000 1 1;"));
        Checks.throwsIndex("load(1)", () -> x.load(1));
        Checks.throwsState("restore(0)", () -> x.restore(0));
        Checks.throwsIndex("restore(2)", () -> x.restore(2));
        Checks.same("undoable", x.undoable(), 2);
        Checks.same("undo", x.undo(), 1);
        Checks.same("year", x.year(), 2001);
    }

    /** "The input buffer and the stored error remain." */
    private static void inputStaysAtUndo() {
        RetentionArchive x = Checks.loaded(TEXT);
        x.passYears(1);
        x.save(0);
        Checks.throwsArgument("load of a wrong text", () -> Checks.load(x, "archive 2000 1 9"));
        Checks.append(x, "archive 1950 1 1    ;list");
        x.undo();
        x.restore(0);
        Checks.same("bufferLength", x.bufferLength(), 40);
        Checks.same("parseError", x.parseError(), 2);
        Checks.same("errorPosition", x.errorPosition(), 15);
        Checks.same("load of the bytes", x.load(25), 0);
        Checks.same("year", x.year(), 1950);
    }

    /** "The written text remains until another text is written; load(), undo() and restore() do not affect it." */
    private static void writtenTextRemains() {
        RetentionArchive x = Checks.loaded(TEXT);
        x.makeList();
        Checks.same("writeList", x.writeList(), 20);
        String text = "0:1991 2:1996 3:1997";
        x.save(0);
        x.approveList();
        Checks.same("after a change", Checks.written(x), text);
        x.undo();
        Checks.same("after undo", Checks.written(x), text);
        x.restore(0);
        Checks.same("after restore", Checks.written(x), text);
        Checks.throwsArgument("load of a wrong text", () -> Checks.load(x, "zap"));
        Checks.same("after a wrong text", Checks.written(x), text);
        Checks.throwsIndex("writeMark of no box", () -> x.writeMark(4));
        Checks.throwsIndex("writeShelf of no shelf", () -> x.writeShelf(2));
        Checks.same("after refused calls", Checks.written(x), text);
        Checks.load(x, "archive 1950 1 1");
        Checks.same("after load", Checks.written(x), text);
        Checks.same("writeShelf", x.writeShelf(0), 1);
        Checks.same("another text", Checks.written(x), ".");
        Checks.same("writeList", x.writeList(), 1);
        Checks.same("another text", Checks.written(x), "-");
    }

    /** "Returns the number of changes that can be undone, 0 to 8." */
    private static void undoableOfANewObject() {
        RetentionArchive x = new RetentionArchive();
        Checks.same("undoable", x.undoable(), 0);
        Checks.throwsState("passYears", () -> x.passYears(1));
        Checks.same("undoable after a refused change", x.undoable(), 0);
    }

    /** "slot, 0 or 1" */
    private static void savedStates() {
        RetentionArchive x = Checks.loaded(TEXT);
        Checks.same("save(0)", x.save(0), 2000);
        x.passYears(7);
        Checks.same("save(1)", x.save(1), 2007);
        x.passYears(7);
        Checks.same("restore(0)", x.restore(0), 2000);
        Checks.same("restore(1)", x.restore(1), 2007);
        for (int slot : new int[] {Integer.MIN_VALUE, -1, 2, Integer.MAX_VALUE}) {
            Checks.refusesIndex(x, "save(" + slot + ")", () -> x.save(slot));
            Checks.refusesIndex(x, "restore(" + slot + ")", () -> x.restore(slot));
        }
    }

    /** "replaces the state that was saved there" */
    private static void savingReplaces() {
        for (int slot = 0; slot < 2; slot++) {
            RetentionArchive x = Checks.loaded(TEXT);
            x.save(1 - slot);
            x.save(slot);
            x.passYears(1);
            x.save(slot);
            x.passYears(1);
            Checks.same("the newer state", x.restore(slot), 2001);
            Checks.same("the other slot", x.restore(1 - slot), 2000);
        }
    }

    /** "Changes that can be undone are not part of the state." */
    private static void statesWithoutTheirChanges() {
        RetentionArchive x = Checks.loaded(TEXT);
        x.passYears(1);
        x.passYears(1);
        x.save(0);
        Checks.same("undoable after save", x.undoable(), 2);
        Checks.same("undo", x.undo(), 1);
        Checks.same("restore", x.restore(0), 2002);
        Checks.same("undoable after restore", x.undoable(), 0);
    }

    /** "The state remains saved" */
    private static void stateRemainsSaved() {
        RetentionArchive x = Checks.loaded(TEXT);
        for (Consumer<RetentionArchive> change : changes()) {
            change.accept(x);
        }
        x.undo();
        x.undo();
        x.undo();
        x.save(0);
        String saved = Checks.state(x);
        for (int times = 0; times < 3; times++) {
            x.approveList();
            x.seal(1, 2020);
            x.addBox(1, 1950);
            x.passYears(20);
            x.undo();
            Checks.same("restore", x.restore(0), 2000);
            Checks.same("the restored state", Checks.state(x), saved);
        }
    }

    /** "and no state is saved" after a text was loaded; a text with an error leaves the states. */
    private static void slotsAfterLoad() {
        RetentionArchive x = Checks.loaded(TEXT);
        x.save(0);
        x.save(1);
        x.passYears(1);
        Checks.throwsArgument("load of a wrong text", () -> Checks.load(x, TEXT + ";"));
        Checks.same("restore after a wrong text", x.restore(1), 2000);
        Checks.load(x, "archive 1950 1 1");
        Checks.refusesState(x, "restore(0) after load", () -> x.restore(0));
        Checks.refusesState(x, "restore(1) after load", () -> x.restore(1));
        x.save(1);
        Checks.refusesState(x, "restore(0) after save(1)", () -> x.restore(0));
        Checks.same("restore(1) of the new archive", x.restore(1), 1950);
    }
}
