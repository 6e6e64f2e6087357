/** Section 6 at its limits; each test tells the sentence that it is for. */
final class TextLimitsTest {
    private static final String EMPTY = "archive 2000 2 3";
    private static final String HEAD = "archive 2000 2 3;class tax 10 2;class law 5 0;";
    /** Boxes 0 and 1 are due and open to both readers. */
    private static final String BOXES = HEAD + "box 0 1980;box 1 1980;reader ann 2;reader bob 2;";
    private static final String TWENTY_FOUR = "archive 2000 6 8;class a 1 0;repeat 8(box 0 1980;box 0 1980;box 0 1980)";

    private TextLimitsTest() {
    }

    static void run() {
        lengthOfTheBuffer();
        lettersOfAWord();
        digitsOfANumber();
        semicolonsAndBrackets();
        spaces();
        endOfAWord();
        endOfANumber();
        leadingZeros();
        anyWordIsAName();
        numbersOfTheHead();
        numbersOfTheLines();
        numbersThatGoWithTheCurrentYear();
        numbersOfWhatExists();
        numbersWhenNothingExists();
        destroyedBoxesExist();
        linesFromLeftToRight();
        sealsReplaceSeals();
        timesOfARepeat();
        repeatsInRepeats();
        errorsOfALaterTime();
        firstInvalidToken();
        smallestCode();
        positionOfAnError();
        textsThatEndTooEarly();
        wordsAtAWrongPlace();
        thirdCode();
        fourthCode();
        yearsOfAText();
    }

    /** The numbers from the least to the most are taken behind a text, and those next to them are not. */
    private static void range(String before, int least, int most, String after) {
        if (least > 0) {
            Checks.wrong(2, before + " ^" + (least - 1) + after);
            Checks.wrong(2, before + " ^0" + after);
        }
        Checks.right(before + " " + least + after);
        Checks.right(before + " " + most + after);
        if (most < 9999) {
            Checks.wrong(2, before + " ^" + (most + 1) + after);
            Checks.wrong(2, before + " ^9999" + after);
        }
        Checks.wrong(1, before + " ^10000" + after);
        Checks.wrong(1, before + " ^0000" + least + after);
        Checks.wrong(1, before + " ^-" + least + after);
        Checks.wrong(1, before + "^");
        Checks.wrong(1, before + " ^;" + after);
        Checks.wrong(1, before + " ^one" + after);
    }

    /** "The input buffer holds at most 600 bytes." */
    private static void lengthOfTheBuffer() {
        String text = EMPTY + ";list".repeat(115) + ";    list";
        Checks.same("the length of the longest text", text.length(), 600);
        RetentionArchive x = Checks.loaded(text);
        Checks.same("load", x.year(), 2000);
        Checks.append(x, text + ";list");
        Checks.same("bufferLength", x.bufferLength(), 600);
        Checks.throwsIndex("load(601)", () -> x.load(601));
        Checks.same("load(600)", x.load(600), 0);
        Checks.wrongAt(1, 599, text.substring(0, 596) + "   A");
        Checks.wrongAt(1, 596, text.substring(0, 596) + "lisz");
        Checks.wrongAt(1, 600, text.substring(0, 596) + "    ");
    }

    /** "words (1 to 7 lower-case letters)", "a word of 8 or more letters" */
    private static void lettersOfAWord() {
        Checks.right(EMPTY + ";class a 1 1;class abcdef 1 1");
        Checks.wrong(3, EMPTY + ";class ^abcdefg 1 1");
        Checks.wrong(1, EMPTY + ";class ^abcdefgh 1 1");
        Checks.wrong(1, EMPTY + ";class ^abcdefghi 1 1");
        Checks.wrong(1, "^" + "a".repeat(600));
        Checks.right(EMPTY + ";approve");
        Checks.wrong(1, EMPTY + ";^approvea");
        Checks.wrong(1, "^aarchive 2000 2 3");
        Checks.wrong(1, "^archivee 2000 2 3");
        Checks.wrong(1, HEAD + "class a 1 1 ^foreverr");
        Checks.wrong(1, HEAD + "box 0 1980 ^atatatat 1 1");
    }

    /** "numbers (1 to 4 digits)", "a number of 5 or more digits" */
    private static void digitsOfANumber() {
        Checks.right(EMPTY + ";pass 1");
        Checks.right(EMPTY + ";pass 0001");
        Checks.wrong(1, EMPTY + ";pass ^00001");
        Checks.wrong(1, EMPTY + ";pass ^000001");
        Checks.wrong(1, "archive ^02000 2 3");
        Checks.wrong(1, "archive 2000 2 ^" + "3".repeat(580));
        Checks.right(BOXES + "seal 0 9999");
        Checks.wrong(1, BOXES + "seal 0 ^10000");
        Checks.wrong(1, BOXES + "seal 0 ^4294969296");
    }

    /** "semicolons, and the round brackets ( and )": each byte is a token of its own. */
    private static void semicolonsAndBrackets() {
        Checks.right(EMPTY + ";list;list");
        Checks.wrong(1, EMPTY + ";^;list");
        Checks.wrong(1, EMPTY + ";list;^;");
        Checks.wrong(1, EMPTY + ";repeat 2(^(list))");
        Checks.wrong(1, EMPTY + ";repeat 2(list)^)");
        Checks.wrong(1, EMPTY + ";repeat 2(^)");
        Checks.wrong(1, EMPTY + ";repeat 2^)list(");
        for (char other : new char[] {'(' - 1, ')' + 1, ';' - 1, ';' + 1, '[', ']', ',', '.'}) {
            Checks.wrong(1, EMPTY + ";list^" + other);
        }
    }

    /** "Spaces (byte 32) separate tokens and are otherwise ignored." */
    private static void spaces() {
        String spread = "   archive   2000  2   3  ;  class  tax  10  2  ;  repeat  2  (  box  0  1980  )  ; list   ";
        Checks.same("spaces everywhere", Checks.state(Checks.loaded(spread)),
                Checks.state(Checks.loaded("archive 2000 2 3;class tax 10 2;repeat 2(box 0 1980);list")));
        Checks.wrong(1, "^arch ive 2000 2 3");
        Checks.wrong(1, "archive 2000 2 3 ^0");
        Checks.wrong(2, "archive ^20 00 2 3");
        Checks.wrong(1, HEAD + "class ab ^cd 1 1");
        for (char other : new char[] {0, 9, 10, 13, 31, 33, 160}) {
            Checks.wrong(1, EMPTY + "^" + other);
            Checks.wrong(1, "archive^" + other + "2000 2 3");
        }
    }

    /** "A word ends at the first byte that is not a lower-case letter" */
    private static void endOfAWord() {
        Checks.right("archive2000 2 3;list;class a1 1;reader r4;box0 1980at0 1;repeat2(list)");
        Checks.wrong(1, EMPTY + ";list^List");
        Checks.wrong(1, EMPTY + ";list^1");
        Checks.wrong(1, EMPTY + ";class abc^A1 1");
        Checks.wrong(1, EMPTY + ";^listlist");
        Checks.wrong(1, EMPTY + ";^approveapprove");
    }

    /** "a number ends at the first byte that is not a digit." */
    private static void endOfANumber() {
        Checks.right("archive 2000 2 3;class a 1 1forever;box 0 1980at 0 1;repeat 2(list)");
        Checks.wrong(1, "archive 2000^x 2 3");
        Checks.wrong(1, EMPTY + ";pass 1^/");
        Checks.wrong(1, EMPTY + ";pass 1^:");
        Checks.wrong(1, EMPTY + ";pass 1^.5");
        Checks.wrong(1, EMPTY + ";pass 1^list");
    }

    /** "Leading zeros are allowed." */
    private static void leadingZeros() {
        RetentionArchive x = Checks.loaded("archive 2000 0002 003;class a 0050 0000;box 0000 1980 at 0001 002;pass 0009");
        Checks.same("year", x.year(), 2009);
        Checks.same("period", x.period(0), 50);
        Checks.same("closedPeriod", x.closedPeriod(0), 0);
        Checks.same("boxAt", x.boxAt(1, 2), 0);
        Checks.wrong(2, EMPTY + ";pass ^0000");
        Checks.wrong(2, EMPTY + ";pass ^0051");
    }

    /** "name is a word of at most 6 letters (any word, also one of the words of the grammar)" */
    private static void anyWordIsAName() {
        for (String word : new String[] {"class", "box", "at", "reader", "seal", "back", "move", "list", "strike", "pass",
            "repeat"}) {
            RetentionArchive x = Checks.loaded(EMPTY + ";class " + word + " 1 1;reader " + word + " 1");
            Checks.same("the class's name", Checks.name(9, i -> x.classLetter(0, i)), word);
            Checks.same("the reader's name", Checks.name(9, i -> x.readerLetter(0, i)), word);
        }
        for (String word : new String[] {"archive", "forever", "request", "approve"}) {
            Checks.wrong(3, EMPTY + ";class ^" + word + " 1 1");
            Checks.wrong(3, EMPTY + ";reader ^" + word + " 1");
        }
    }

    /** "year of "archive" 1900 to 2500, shelves 1 to 6, places 1 to 8" */
    private static void numbersOfTheHead() {
        range("archive", 1900, 2500, " 2 3");
        range("archive 2000", 1, 6, " 3");
        range("archive 2000 2", 1, 8, "");
    }

    /** "period 1 to 50, closed 0 to 50, ... limit 1 to 4, ... years of strike 1 to 20, years of pass 1 to 50, times 1 to 9" */
    private static void numbersOfTheLines() {
        range(HEAD + "class a", 1, 50, " 1");
        range(HEAD + "class a 1", 0, 50, "");
        range(HEAD + "reader r", 1, 4, "");
        range(BOXES + "list;strike 0", 1, 20, "");
        range(BOXES + "pass", 1, 50, "");
        range(BOXES + "repeat", 1, 9, "(list)");
    }

    /** "year of "box" from 1800 to the current year", "year of "seal" from the current year to 9999" */
    private static void numbersThatGoWithTheCurrentYear() {
        range(HEAD + "box 0", 1800, 2000, "");
        range(HEAD + "pass 50;box 0", 1800, 2050, "");
        range("archive 1900 1 1;class a 1 1;box 0", 1800, 1900, "");
        range(BOXES + "seal 0", 2000, 9999, "");
        range(BOXES + "pass 50;seal 0", 2050, 9999, "");
        range("archive 2500 1 1;class a 1 1;box 0 1800;repeat 5(pass 50;pass 50);seal 0", 3000, 9999, "");
    }

    /** "Record classes, boxes, readers, shelves and places must exist." */
    private static void numbersOfWhatExists() {
        range(HEAD + "box", 0, 1, " 1980");
        range(HEAD + "box 0 1980 at", 0, 1, " 0");
        range(HEAD + "box 0 1980 at 1", 0, 2, "");
        range(BOXES + "seal", 0, 1, " 2000");
        range(BOXES + "request", 0, 1, " 0");
        range(BOXES + "request 0", 0, 1, "");
        range(BOXES + "request 0 0;request 0 1;back", 0, 1, "");
        range(BOXES + "move", 0, 1, " 1 1");
        range(BOXES + "move 0", 0, 1, " 2");
        range(BOXES + "move 0 1", 0, 2, "");
        range(BOXES + "list;strike", 0, 1, " 1");
        range(TWENTY_FOUR + ";seal", 0, 23, " 2000");
        range("archive 2000 6 8;class a 1 1;box 0 1980 at", 0, 5, " 7");
        range("archive 2000 6 8;class a 1 1;box 0 1980 at 5", 0, 7, "");
    }

    private static void numbersWhenNothingExists() {
        Checks.wrong(2, EMPTY + ";box ^0 1980");
        Checks.wrong(2, HEAD + "seal ^0 2000");
        Checks.wrong(2, HEAD + "box 0 1980;request ^0 0");
        Checks.wrong(2, HEAD + "reader r 1;request 0 ^0");
        Checks.wrong(2, HEAD + "back ^0");
        Checks.wrong(2, HEAD + "move ^0 0 0");
        Checks.wrong(2, HEAD + "list;strike ^0 1");
    }

    /** A destroyed box keeps its number, so it is not the second code that it gets. */
    private static void destroyedBoxesExist() {
        String destroyed = BOXES + "list;approve;";
        Checks.wrong(3, destroyed + "seal ^0 2000");
        Checks.wrong(3, destroyed + "request 0 ^1");
        Checks.wrong(3, destroyed + "back ^0");
        Checks.wrong(3, destroyed + "move ^1 1 1");
        Checks.wrong(3, destroyed + "strike ^0 1");
        Checks.same("load answers them too", Checks.load(new RetentionArchive(), destroyed + "list"), 2);
    }

    /** "Lines take effect from left to right." */
    private static void linesFromLeftToRight() {
        Checks.wrong(2, EMPTY + ";box ^0 1980;class a 1 1");
        Checks.wrong(2, HEAD + "seal ^0 2000;box 0 1980");
        Checks.wrong(2, HEAD + "box 0 ^2001;pass 1");
        Checks.wrong(3, BOXES + "strike ^0 1;list");
        Checks.wrong(3, BOXES + "back ^0;request 0 0");
        Checks.wrong(3, HEAD + "box 0 1980;box 0 1980 at 0 ^0;move 0 1 1");
        Checks.right(HEAD + "box 0 1980;move 0 1 1;box 0 1980 at 0 0");
    }

    /** ""seal" seals a box until a last year, in place of an earlier seal." */
    private static void sealsReplaceSeals() {
        Checks.same("a shorter seal", Checks.loaded(BOXES + "seal 0 9999;seal 0 2000").sealedUntil(0), 2000);
        Checks.same("a longer seal", Checks.loaded(BOXES + "seal 0 2000;seal 0 9999").sealedUntil(0), 9999);
    }

    /** ""repeat" lets the lines in the brackets take effect several times, one time after the other." */
    private static void timesOfARepeat() {
        for (int times = 1; times <= 9; times++) {
            Checks.same("pass in a repeat", Checks.loaded(EMPTY + ";repeat " + times + "(pass 1)").year(), 2000 + times);
        }
        RetentionArchive x = Checks.loaded(HEAD + "repeat 3(box 0 1980;pass 1;box 1 1985)");
        for (int box = 0; box < 6; box++) {
            Checks.same("one time after the other", x.classOf(box), box % 2);
        }
    }

    /** "A "repeat" can stand inside another one, but not inside two others." */
    private static void repeatsInRepeats() {
        Checks.same("inside another one", Checks.loaded(EMPTY + ";repeat 9(repeat 9(pass 1);pass 1)").year(), 2090);
        Checks.same("one behind another", Checks.loaded(EMPTY + ";repeat 2(repeat 3(pass 1);repeat 4(pass 1))").year(), 2014);
        Checks.same("again and again", Checks.loaded(EMPTY + ";repeat 2(repeat 2(pass 1));repeat 2(repeat 2(pass 1));"
                + "repeat 2(pass 1)").year(), 2010);
        Checks.wrong(4, EMPTY + ";repeat 2(repeat 2(^repeat 2(list)))");
        Checks.wrong(4, EMPTY + ";repeat 1(list;repeat 1(list;^repeat 1(list)))");
        Checks.wrong(4, EMPTY + ";repeat 1(repeat 1(list);repeat 1(^repeat 1(list)))");
        Checks.wrong(4, EMPTY + ";repeat 1(repeat 1(^repeat");
    }

    /** "so an error may be found only in a later time; it is reported at its token all the same." */
    private static void errorsOfALaterTime() {
        Checks.wrong(3, EMPTY + ";repeat 2(class ^a 1 1)");
        Checks.wrong(3, EMPTY + ";repeat 2(reader ^a 1)");
        Checks.wrong(3, HEAD + "repeat 2(box 0 1980 at 1 ^1)");
        Checks.wrong(3, BOXES + "repeat 2(request 0 ^0)");
        Checks.right(BOXES + "repeat 9(request 0 0;back 0)");
        Checks.wrong(2, BOXES + "repeat 9(seal 0 ^2007;pass 1)");
        Checks.right(BOXES + "repeat 9(seal 0 2008;pass 1)");
        Checks.wrong(4, "archive 2000 1 8;class a 1 1;repeat 9(^box 0 1980)");
        Checks.right("archive 2000 1 8;class a 1 1;repeat 8(box 0 1980)");
        Checks.wrong(3, EMPTY + ";repeat 2(repeat 1(class ^a 1 1))");
        Checks.wrong(3, EMPTY + ";repeat 1(repeat 2(class ^a 1 1))");
        Checks.wrong(3, EMPTY + ";repeat 2(class ^a 1 1);class a 1 1 zap");
        Checks.wrong(1, EMPTY + ";repeat 2(class a 1 1;^zap)");
        Checks.wrong(1, EMPTY + ";repeat 2(class a 1 1^");
    }

    /** "Parsing stops at the first invalid token from the left." */
    private static void firstInvalidToken() {
        Checks.wrong(4, EMPTY + ";repeat 1(repeat 1(^repeat 10 (zap");
        Checks.wrong(2, "archive ^1899 0 9 zap");
        Checks.wrong(2, BOXES + "move ^2 2 3");
        Checks.wrong(3, BOXES + "seal 0 2000;request 0 ^0;zap");
        Checks.wrong(3, HEAD + "class ^law 0 51");
        Checks.wrong(3, BOXES + "strike ^0 21");
    }

    /** "If several error codes apply to this token, the smallest one is reported." */
    private static void smallestCode() {
        Checks.wrong(1, HEAD + "class ^abcdefgh 1 1");
        Checks.wrong(1, "archive ^99999 2 3");
        Checks.wrong(1, BOXES + "back ^00002");
        Checks.wrong(2, BOXES + "back ^2");
        Checks.wrong(2, BOXES + "strike ^2 1");
        Checks.wrong(2, BOXES + "seal ^9999 2000");
        Checks.wrong(2, BOXES + "request 0 ^2");
        Checks.wrong(2, BOXES + "move 0 0 ^3");
        String years = "archive 2500 1 1;repeat 5(pass 50;pass 50);pass ";
        Checks.wrong(1, years + "^00051");
        Checks.wrong(2, years + "^51");
        Checks.wrong(2, years + "^0");
        Checks.wrong(4, years + "^1");
        Checks.wrong(1, EMPTY + ";repeat 1(repeat 1(list ^repeat 1(list)))");
        Checks.wrong(1, TWENTY_FOUR + " ^box");
        Checks.wrong(1, TWENTY_FOUR + ";list ^box");
    }

    /** "The error position is the index of the first byte of the token" */
    private static void positionOfAnError() {
        Checks.wrong(1, "^x");
        Checks.wrong(1, "  ^x");
        Checks.wrong(1, "^(");
        Checks.wrong(2, "archive    ^0000  2 3");
        Checks.wrong(1, EMPTY + "   ^abcdefghijkl   ");
        Checks.wrong(1, EMPTY + ";list" + " ".repeat(578) + "^)");
    }

    /** "or the number of parsed bytes if the text ends too early" */
    private static void textsThatEndTooEarly() {
        for (String start : new String[] {"", "archive", "archive 2000", "archive 2000 2", EMPTY + ";", EMPTY + ";list;"}) {
            endsTooEarly(start);
        }
        for (String line : new String[] {"class", "class a", "class a 1", "box", "box 0", "box 0 1980 at", "box 0 1980 at 1",
            "reader", "reader r", "seal", "seal 0", "request", "request 0", "back", "move", "move 0", "move 0 1", "strike",
            "strike 0", "pass", "repeat", "repeat 2", "repeat 2(", "repeat 2(list", "repeat 2(list;", "repeat 2(pass",
            "repeat 2(repeat 2(list", "repeat 2(repeat 2(list)"}) {
            endsTooEarly(BOXES + "list;" + line);
        }
    }

    /** Neither the spaces at the end nor the bytes behind the length change anything. */
    private static void endsTooEarly(String text) {
        for (String spaces : new String[] {"", " ", "    "}) {
            Checks.wrongAt(1, text.length() + spaces.length(), text + spaces);
        }
        RetentionArchive x = new RetentionArchive();
        Checks.append(x, text + " 1 1 1 1;list");
        Checks.throwsArgument("load of \"" + text + "\"", () -> x.load(text.length()));
        Checks.same("parseError of \"" + text + "\"", x.parseError(), 1);
        Checks.same("errorPosition of \"" + text + "\"", x.errorPosition(), text.length());
    }

    /** "a token that the grammar does not allow at this place" */
    private static void wordsAtAWrongPlace() {
        Checks.wrong(1, "^list");
        Checks.wrong(1, EMPTY + " ^list");
        for (String word : new String[] {"archive", "at", "forever", "zap", "7", "("}) {
            Checks.wrong(1, EMPTY + ";^" + word);
            Checks.wrong(1, EMPTY + ";list;^" + word);
            Checks.wrong(1, EMPTY + ";list ^" + word);
            Checks.wrong(1, EMPTY + ";repeat 1(^" + word);
        }
        Checks.wrong(1, HEAD + "box 0 1980 ^forever");
        Checks.wrong(1, HEAD + "class a 1 1 ^at 0 0");
        Checks.wrong(1, HEAD + "class a 1 1 forever ^forever");
        Checks.wrong(1, HEAD + "reader a 1 ^forever");
        Checks.wrong(1, BOXES + "move 0 ^at 1 1");
        Checks.wrong(1, EMPTY + ";list^)");
        Checks.wrong(1, EMPTY + " ^archive 2000 2 3");
        Checks.wrong(1, EMPTY + ";repeat 1 ^list");
    }

    /** "3: a name ... that another has; the place ... not free; the box ... destroyed, ... obstacle, ... not lent, ..." */
    private static void thirdCode() {
        Checks.wrong(3, HEAD + "class ^tax 1 1");
        Checks.right(HEAD + "reader tax 1");
        Checks.wrong(3, BOXES + "reader ^bob 1");
        Checks.right(BOXES + "class bob 1 1");
        Checks.wrong(3, BOXES + "box 0 1980 at 0 ^1");
        Checks.right(BOXES + "box 0 1980 at 0 2");
        Checks.wrong(3, BOXES + "move 0 0 ^1");
        Checks.wrong(3, BOXES + "move 0 0 ^0");
        Checks.right(BOXES + "move 0 0 2");
        Checks.wrong(3, BOXES + "box 0 1998;request 0 ^2");
        Checks.right(BOXES + "box 0 1997;request 0 2");
        Checks.wrong(3, BOXES + "request 0 0;back ^1");
        Checks.wrong(3, BOXES + "request 0 0;back 0;back ^0");
        Checks.right(BOXES + "request 0 0;request 1 0;back 0;back 0");
        Checks.wrong(3, BOXES + "list;strike 0 1;strike ^0 1");
        Checks.right(BOXES + "list;strike 0 1;list;strike 0 1");
    }

    /** "4: the word "class" of a ninth ...; "reader" of a seventh ...; "box" of a twenty-fifth, or if no place is free" */
    private static void fourthCode() {
        String seven = "archive 2000 1 1;class a 1 1;class b 1 1;class c 1 1;class d 1 1;class e 1 1;class f 1 1;class g 1 1;";
        Checks.right(seven + "class h 1 1");
        Checks.wrong(4, seven + "class h 1 1;^class i 1 1");
        Checks.wrong(4, seven + "class h 1 1;^class");
        Checks.wrong(4, seven + "class h 1 1;^class abcdefgh 0 51");
        String five = "archive 2000 1 1;reader a 1;reader b 1;reader c 1;reader d 1;reader e 1;";
        Checks.right(five + "reader f 1");
        Checks.wrong(4, five + "reader f 1;^reader g 1");
        Checks.wrong(4, five + "reader f 1;^reader a 0");
        Checks.right(TWENTY_FOUR);
        Checks.wrong(4, TWENTY_FOUR + ";^box 0 1980");
        Checks.wrong(4, TWENTY_FOUR + ";^box 9 1");
        Checks.wrong(4, TWENTY_FOUR + ";list;approve;^box 0 1980");
        String full = "archive 2000 1 1;class a 1 1;box 0 1980";
        Checks.right(full);
        Checks.wrong(4, full + ";^box 0 1980");
        Checks.wrong(4, full + ";^box 0 1980 at 0 0");
        Checks.right(full + ";list;approve;box 0 1980");
    }

    /** "the years of "pass" with which the text would let more than 500 years pass." */
    private static void yearsOfAText() {
        Checks.same("500 years", Checks.loaded(EMPTY + ";repeat 2(repeat 5(pass 50))").year(), 2500);
        Checks.wrong(4, EMPTY + ";repeat 2(repeat 5(pass 50));pass ^1");
        Checks.wrong(4, EMPTY + ";repeat 9(pass 50);pass 1;pass ^50;list");
        Checks.right(EMPTY + ";repeat 9(pass 50);pass 1;pass 49");
        Checks.wrong(4, EMPTY + ";repeat 9(repeat 9(pass ^7))");
        Checks.right(EMPTY + ";repeat 9(repeat 9(pass 6))");
        RetentionArchive x = Checks.loaded(EMPTY + ";repeat 2(repeat 5(pass 50))");
        Checks.load(x, EMPTY + ";repeat 2(repeat 5(pass 50))");
        Checks.same("each text has its own 500 years", x.year(), 2500);
        Checks.throwsArgument("load of a wrong text", () -> Checks.load(x, EMPTY + ";repeat 2(repeat 5(pass 50));zap"));
        Checks.load(x, EMPTY + ";repeat 2(repeat 5(pass 50))");
        Checks.same("the years of a wrong text do not count", x.year(), 2500);
    }
}
