/** Sections 4 and 5 at their limits; each test tells the sentence that it is for. */
final class LoanLimitsTest {
    /** Boxes 0 to 3 are open to readers; the readers' limits are 1, 1, 1, 1, 4 and 4. */
    private static final String TEXT = "archive 2000 2 8;class tax 40 0;class maps 1 20;reader a 1;reader b 1;reader c 1;"
            + "reader d 1;reader e 4;reader f 4;box 0 1990;box 0 1990;box 0 1990;box 0 1990;";

    private LoanLimitsTest() {
    }

    static void run() {
        numberOfReaders();
        namesOfReaders();
        limitsOfReaders();
        readersOfTheSameName();
        lengthOfTheQueue();
        queuesOfAllBoxes();
        obstaclesToARequest();
        orderOfTwoObstacles();
        theWholeQueueIsLookedAt();
        lentBelowTheLimit();
        aheadOfReadersWhoWait();
        atTheEndOfTheQueue();
        yearOfALoan();
        boxesThatAreNotServed();
        firstReaderBelowTheLimit();
        noReaderBelowTheLimit();
        givingBack();
        yearsOfALoan();
        allLoansEndBeforeAnyBoxIsServed();
        servedInTheOrderOfTheNumbers();
        theListDoesNotChange();
    }

    private static String readers(int count) {
        StringBuilder text = new StringBuilder("archive 2000 1 1");
        for (int i = 0; i < count; i++) {
            text.append(";reader ").append((char) ('a' + i)).append(' ').append(1 + i % 4);
        }
        return text.toString();
    }

    /** "There are 0 to 6 readers, numbered from 0." */
    private static void numberOfReaders() {
        for (int count = 0; count <= 6; count++) {
            RetentionArchive x = Checks.loaded(readers(count));
            int number = count;
            Checks.same("readerCount", x.readerCount(), count);
            Checks.throwsIndex("loanLimit(" + count + ") of " + count, () -> x.loanLimit(number));
            Checks.throwsIndex("loanLimit(-1) of " + count, () -> x.loanLimit(-1));
            for (int r = 0; r < count; r++) {
                Checks.same("loanLimit(" + r + ") of " + count, x.loanLimit(r), 1 + r % 4);
            }
        }
        Checks.wrong(4, readers(6) + ";^reader z 1");
    }

    /** "A reader has a name of 1 to 6 letters a to z" */
    private static void namesOfReaders() {
        Checks.wrong(1, readers(1) + ";reader ^1");
        for (String name : new String[] {"a", "az", "zzz", "aaaa", "abxyz", "azazaz"}) {
            RetentionArchive x = Checks.loaded("archive 2000 1 1;reader " + name + " 1");
            Checks.same("the name " + name, Checks.name(9, i -> x.readerLetter(0, i)), name);
        }
        Checks.wrong(3, readers(1) + ";reader ^abcdefg 1");
        Checks.wrong(1, readers(1) + ";reader ^abcdefgh 1");
        Checks.wrong(1, readers(1) + ";reader ^A 1");
        Checks.wrong(1, readers(1) + ";reader ^` 1");
        Checks.wrong(1, readers(1) + ";reader ^{ 1");
    }

    /** "a limit of 1 to 4 boxes that the reader can have at the same time" */
    private static void limitsOfReaders() {
        Checks.wrong(2, readers(1) + ";reader z ^0");
        Checks.wrong(2, readers(1) + ";reader z ^5");
        for (int limit = 1; limit <= 4; limit++) {
            RetentionArchive x = Checks.loaded("archive 2000 1 8;class a 1 0;reader r " + limit + ";repeat 5(box 0 1980)");
            Checks.same("loanLimit", x.loanLimit(0), limit);
            for (int box = 0; box < 5; box++) {
                Checks.same("request of box " + box + " with the limit " + limit, x.request(0, box), box < limit);
                Checks.same("loansOf", x.loansOf(0), Math.min(box + 1, limit));
            }
            Checks.same("inconsistencies", x.inconsistencies(), 0);
        }
    }

    /** "No two readers have the same name." */
    private static void readersOfTheSameName() {
        Checks.wrong(3, readers(5) + ";reader ^a 1");
        Checks.wrong(3, readers(5) + ";reader ^e 1");
        Checks.wrong(3, "archive 2000 1 1;reader abcdef 1;reader ^abcdef 1");
        Checks.right("archive 2000 1 1;reader abcdef 1;reader abcdeg 1;reader bbcdef 1;reader abcde 1;reader fedcba 1");
        Checks.right("archive 2000 1 1;class same 1 1;reader same 1");
    }

    /** "Each box has a queue of at most 3 waiting readers." */
    private static void lengthOfTheQueue() {
        RetentionArchive x = Checks.loaded(TEXT + "request 0 0");
        for (int reader = 1; reader <= 3; reader++) {
            Checks.same("waitingReaders", x.waitingReaders(0), reader - 1);
            Checks.same("requestObstacle", x.requestObstacle(4, 0), 0);
            Checks.same("request", x.request(reader, 0), false);
        }
        Checks.same("waitingReaders of a full queue", x.waitingReaders(0), 3);
        Checks.same("requestObstacle of a full queue", x.requestObstacle(4, 0), 5);
        Checks.refusesArgument(x, "a fourth waiting reader", () -> x.request(4, 0));
        x.giveBack(0);
        Checks.same("waitingReaders after one was served", x.waitingReaders(0), 2);
        Checks.same("a third waiting reader once more", x.request(4, 0), false);
        Checks.same("another box's queue is its own", x.request(5, 1), true);
        Checks.wrong(3, TEXT + "request 0 0;request 1 0;request 2 0;request 3 0;request 4 ^0");
    }

    /** "Each box has a queue": the first boxes' and the last ones' are not mixed up. */
    private static void queuesOfAllBoxes() {
        RetentionArchive x = Checks.loaded("archive 2000 3 8;class a 1 0;reader a 4;reader b 4;reader c 4;reader d 4;"
                + "reader e 4;reader f 4;repeat 8(box 0 1980;box 0 1980;box 0 1980)");
        for (int box = 0; box < 24; box++) {
            x.request(box / 4, box);
            for (int i = 1; i <= 1 + box % 3; i++) {
                Checks.same("request", x.request((box / 4 + i) % 6, box), false);
            }
        }
        String before = Checks.state(x);
        Checks.same("giveBack of the last box", x.giveBack(23), -1);
        for (int box = 0; box < 24; box++) {
            Checks.same("waitingReaders(" + box + ")", x.waitingReaders(box), 1 + box % 3);
            Checks.same("nextReader(" + box + ")", x.nextReader(box), (box / 4 + 1) % 6);
            for (int reader = 0; reader < 6; reader++) {
                int place = (reader - box / 4 + 6) % 6;
                boolean here = place <= 1 + box % 3 && (place > 0 || box < 23);
                Checks.same("requestObstacle(" + reader + ", " + box + ")", x.requestObstacle(reader, box),
                        here ? 4 : box % 3 == 2 ? 5 : 0);
            }
        }
        x.passYears(2);
        x.undo();
        x.undo();
        Checks.same("the state after undo", Checks.state(x), before);
    }

    /** "1 the box is destroyed; 2 it is sealed; 3 it is not open; 4 has the box or waits for it; 5 the queue is full" */
    private static void obstaclesToARequest() {
        Checks.same("1", Checks.loaded(TEXT + "class x 1 0;box 2 1980;list;approve").requestObstacle(0, 4), 1);
        RetentionArchive sealed = Checks.loaded(TEXT + "seal 0 2000;seal 1 2001;pass 1");
        Checks.same("a seal that is over", sealed.requestObstacle(0, 0), 0);
        Checks.same("2", sealed.requestObstacle(0, 1), 2);
        RetentionArchive closed = Checks.loaded(TEXT + "box 1 1979;box 1 1980");
        Checks.same("open", closed.requestObstacle(0, 4), 0);
        Checks.same("3", closed.requestObstacle(0, 5), 3);
        RetentionArchive lent = Checks.loaded(TEXT + "request 0 0;request 1 0");
        Checks.same("4, has it", lent.requestObstacle(0, 0), 4);
        Checks.same("4, waits for it", lent.requestObstacle(1, 0), 4);
        Checks.same("neither has it nor waits for it", lent.requestObstacle(2, 0), 0);
        Checks.same("has another box", lent.requestObstacle(0, 1), 0);
        RetentionArchive notLent = Checks.loaded(TEXT + "request 0 0;request 0 1");
        Checks.same("4, waits for a box that is not lent", notLent.requestObstacle(0, 1), 4);
    }

    /** "are tested in this order": each two that a reader and a box can have at once. */
    private static void orderOfTwoObstacles() {
        Checks.same("1 and 3", Checks.loaded(TEXT + "box 1 1990;list;approve").requestObstacle(0, 4), 1);
        Checks.same("2 and 3", Checks.loaded(TEXT + "box 1 1990;seal 4 2000").requestObstacle(0, 4), 2);
        RetentionArchive x = Checks.loaded(TEXT + "request 0 0;request 1 0;request 2 0;request 3 0;seal 0 2000");
        Checks.same("2 and 4, has it", x.requestObstacle(0, 0), 2);
        Checks.same("2 and 4, waits for it", x.requestObstacle(1, 0), 2);
        Checks.same("2 and 5", x.requestObstacle(4, 0), 2);
        x.passYears(1);
        Checks.same("4 and 5, has it", x.requestObstacle(0, 0), 4);
        for (int reader = 1; reader <= 3; reader++) {
            Checks.same("4 and 5, waits for it", x.requestObstacle(reader, 0), 4);
        }
        Checks.same("5", x.requestObstacle(4, 0), 5);
    }

    /** A full queue is an obstacle also while the box is not lent. */
    private static void theWholeQueueIsLookedAt() {
        RetentionArchive x = Checks.loaded(TEXT + "request 0 1;request 1 2;request 2 3;request 0 0;request 1 0;request 2 0");
        Checks.same("borrower", x.borrower(0), -1);
        Checks.same("waitingReaders", x.waitingReaders(0), 3);
        Checks.same("requestObstacle", x.requestObstacle(4, 0), 5);
        Checks.refusesArgument(x, "request of a box that is not lent, with a full queue", () -> x.request(4, 0));
    }

    /** "the box is lent to the reader if it is not lent and the reader has fewer boxes than the limit" */
    private static void lentBelowTheLimit() {
        RetentionArchive x = Checks.loaded(TEXT + "request 4 0;request 4 1;request 4 2");
        Checks.same("the last box below the limit", x.request(4, 3), true);
        x.addBox(0, 1990);
        Checks.same("at the limit", x.request(4, 4), false);
        Checks.same("borrower", x.borrower(4), -1);
        Checks.same("nextReader", x.nextReader(4), 4);
        Checks.same("below the limit, and lent", x.request(5, 0), false);
        Checks.same("borrower", x.borrower(0), 4);
        x.giveBack(1);
        x.addBox(0, 1990);
        Checks.same("below the limit once more", x.request(4, 5), true);
    }

    /** "(also ahead of readers who wait for it)" */
    private static void aheadOfReadersWhoWait() {
        RetentionArchive x = Checks.loaded(TEXT + "request 0 1;request 1 2;request 0 0;request 1 0");
        Checks.same("ahead of two", x.request(4, 0), true);
        Checks.same("they still wait", x.waitingReaders(0), 2);
        Checks.same("in their order", x.nextReader(0), 0);
    }

    /** "otherwise the reader is put at the end of the queue." */
    private static void atTheEndOfTheQueue() {
        RetentionArchive x = Checks.loaded(TEXT + "request 5 0;request 4 0;request 1 0;request 0 0");
        int[] order = {4, 1, 0};
        for (int i = 0; i < 3; i++) {
            Checks.same("nextReader", x.nextReader(0), order[i]);
            Checks.same("waitingReaders", x.waitingReaders(0), 3 - i);
            Checks.same("giveBack", x.giveBack(0), order[i]);
        }
        Checks.same("nextReader of an empty queue", x.nextReader(0), -1);
    }

    /** "The year of a loan is the current year when the loan begins." */
    private static void yearOfALoan() {
        RetentionArchive x = Checks.loaded(TEXT + "request 0 0;pass 1;request 1 1;request 4 0;back 0");
        Checks.same("a request's loan", x.loanYear(1), 2001);
        Checks.same("a loan after a return", x.loanYear(0), 2001);
        x.request(5, 1);
        x.passYears(2);
        Checks.same("a loan that a year began", x.loanYear(1), 2003);
        Checks.same("no loan", x.loanYear(0), -1);
    }

    /** "if it is neither destroyed nor sealed nor lent" */
    private static void boxesThatAreNotServed() {
        RetentionArchive x = Checks.loaded(TEXT + "request 0 0;request 4 0;seal 0 2003");
        Checks.same("giveBack of a sealed box", x.giveBack(0), -1);
        x.passYears(3);
        Checks.same("in the last year of the seal", x.borrower(0), -1);
        Checks.same("waitingReaders", x.waitingReaders(0), 1);
        x.passYears(1);
        Checks.same("a year behind the seal", x.borrower(0), 4);
        Checks.same("loanYear", x.loanYear(0), 2004);
        x.request(5, 0);
        x.passYears(1);
        Checks.same("a lent box", x.borrower(0), 4);
        Checks.same("waitingReaders of the lent box", x.waitingReaders(0), 1);
        RetentionArchive y = Checks.loaded(TEXT + "class x 1 0;box 2 1990;request 0 0;request 0 4;list;approve;back 0");
        Checks.same("passYears", y.passYears(1), 0);
        Checks.same("a destroyed box", y.borrower(4), -1);
    }

    /** "lent to the first reader in its queue who has fewer boxes than the limit" */
    private static void firstReaderBelowTheLimit() {
        int[][] left = {{2, 3}, {1, 3}, {1, 2}};
        for (int able = 1; able <= 3; able++) {
            RetentionArchive x = Checks.loaded(TEXT + "request 5 0;request 1 0;request 2 0;request 3 0");
            for (int reader = 1; reader <= 3; reader++) {
                if (reader != able) {
                    x.request(reader, reader);
                }
            }
            Checks.same("giveBack", x.giveBack(0), able);
            Checks.same("loanYear", x.loanYear(0), 2000);
            Checks.same("the reader leaves the queue", x.waitingReaders(0), 2);
            for (int other : left[able - 1]) {
                x.giveBack(other);
                Checks.same("the others keep their order", x.nextReader(0), other);
                Checks.same("giveBack", x.giveBack(0), other);
            }
        }
    }

    /** "if there is one" */
    private static void noReaderBelowTheLimit() {
        RetentionArchive x = Checks.loaded(TEXT + "request 5 0;request 1 0;request 2 0;request 3 0;request 1 1;request 2 2;"
                + "request 3 3");
        Checks.same("giveBack", x.giveBack(0), -1);
        Checks.same("loanYear", x.loanYear(0), -1);
        Checks.same("waitingReaders", x.waitingReaders(0), 3);
        Checks.same("nextReader", x.nextReader(0), 1);
        x.giveBack(3);
        x.passYears(1);
        Checks.same("the one who has room since", x.borrower(0), 3);
        Checks.same("an empty queue", Checks.loaded(TEXT + "request 0 0").giveBack(0), -1);
    }

    /** "When a box is given back, it is not lent any more, and then it is served." */
    private static void givingBack() {
        RetentionArchive x = Checks.loaded(TEXT + "request 0 0;request 1 1;request 0 1;request 1 0");
        Checks.same("the reader who gives back does not wait", x.giveBack(0), -1);
        Checks.same("loansOf the one who gave it back", x.loansOf(0), 0);
        Checks.same("only this box is served", x.borrower(1), 1);
        Checks.same("now the other reader has room", x.giveBack(1), 0);
        Checks.refusesArgument(x, "giveBack of a box that is not lent", () -> x.giveBack(0));
    }

    /** "whose loan began 2 or more years ago" */
    private static void yearsOfALoan() {
        RetentionArchive x = Checks.loaded(TEXT + "request 0 0;seal 0 2009");
        Checks.same("after one year", x.passYears(1), 1);
        x.request(1, 1);
        Checks.same("after two years", x.passYears(1), 1);
        Checks.same("the loan that began two years ago", x.borrower(0), -1);
        Checks.same("the loan that began one year ago", x.borrower(1), 1);
        Checks.same("after three years", x.passYears(1), 0);
        RetentionArchive y = Checks.loaded(TEXT + "request 0 0");
        Checks.same("two years at once", y.passYears(2), 0);
        Checks.same("the year", y.year(), 2002);
    }

    /** "Then each box ... is not lent any more. Then each box ... is served." */
    private static void allLoansEndBeforeAnyBoxIsServed() {
        RetentionArchive x = Checks.loaded(TEXT + "request 0 3;request 0 0;request 1 1;request 2 2;request 1 2;pass 2");
        Checks.same("a smaller box than the one that came back", x.borrower(0), 0);
        Checks.same("a greater box than the one that came back", x.borrower(2), 1);
        Checks.same("loanCount", x.loanCount(), 2);
    }

    /** "Then each box, in the order of the numbers, is served." */
    private static void servedInTheOrderOfTheNumbers() {
        RetentionArchive x = Checks.loaded(TEXT + "request 0 1;request 0 3;request 0 2;request 0 0;pass 2");
        int[] order = {0, 2, 3};
        for (int box : order) {
            Checks.same("the smallest box that waits", x.borrower(box), 0);
            Checks.same("loanCount", x.loanCount(), 1);
            x.passYears(2);
        }
        Checks.same("loanCount at the end", x.loanCount(), 0);
    }

    /** "The list does not change." */
    private static void theListDoesNotChange() {
        RetentionArchive x = Checks.loaded("archive 2000 1 3;class a 10 0;reader r 1;box 0 1980;box 0 1990;request 0 0;list");
        Checks.same("listLength", x.listLength(), 1);
        x.passYears(50);
        Checks.same("a box that is due since is not added", x.listLength(), 1);
        Checks.same("listedBox(0)", x.listedBox(0), 0);
        Checks.same("makeList", x.makeList(), 2);
        x.seal(0, 2050);
        x.passYears(1);
        Checks.same("a box that was sealed stays", x.listLength(), 2);
    }
}
