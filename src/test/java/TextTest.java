/** Section 6: the text format, its error codes and the positions of the errors. */
final class TextTest {
    private static final String HEAD = "archive 2000 2 3;class tax 10 2;class law 5 0 forever;";
    private static final String BOXES = HEAD + "box 0 1988;box 0 1995;reader ann 1;reader bob 2;";

    private TextTest() {
    }

    static void run() {
        head();
        tokens();
        classLines();
        boxLines();
        readerLines();
        sealLines();
        requestAndBackLines();
        moveLines();
        listLines();
        passLines();
        repeatLines();
        repeatsInsideRepeats();
        linesTakeEffectFromLeftToRight();
    }

    private static void head() {
        Checks.wrong(1, "^");
        Checks.wrong(1, "   ^");
        Checks.wrong(1, "^archives 2000 2 3");
        Checks.wrong(1, "^archiv 2000 2 3");
        Checks.wrong(1, "^class 2000 2 3");
        Checks.wrong(1, "^2000 2 3");
        Checks.wrong(1, "archive^");
        Checks.wrong(1, "archive 2000^a 2 3");
        Checks.wrong(1, "archive 2000 ^;");
        Checks.wrong(1, "archive 2000 2^");
        Checks.wrong(1, "archive 2000 2 ^(");
        Checks.wrong(2, "archive ^1899 2 3");
        Checks.wrong(2, "archive ^2501 2 3");
        Checks.wrong(1, "archive ^20000 2 3");
        Checks.wrong(2, "archive 2000 ^0 3");
        Checks.wrong(2, "archive 2000 ^7 3");
        Checks.wrong(2, "archive 2000 2 ^0");
        Checks.wrong(2, "archive 2000 2 ^9");
        Checks.wrong(1, "archive 2000 2 3 ^4");
        Checks.wrong(1, "archive 2000 2 3 ^class");
        Checks.wrong(1, "archive 2000 2 3 ^)");
        Checks.wrong(1, "archive 2000 2 3;^");
        Checks.wrong(1, "archive 2000 2 3;^;");
        Checks.wrong(1, "archive 2000 2 3;list;^");
        Checks.wrong(1, "archive 2000 2 3;list ^list");
        Checks.wrong(1, "archive 2000 2 3;list ^)");
        Checks.wrong(1, "archive 2000 2 3;^forever");
        Checks.wrong(1, "archive 2000 2 3;^archive");
        Checks.wrong(1, "archive 2000 2 3;^5");
        Checks.right("archive 1900 1 1");
        Checks.right("archive 2500 6 8");
    }

    private static void tokens() {
        Checks.right("  archive2000 2   3;list;list  ");
        Checks.right("archive 2000 0002 03;class tax10 2;box0 1990at1 2");
        Checks.right("archive 2000 2 3;class tax 0010 0002forever");
        Checks.wrong(1, "archive 2000 ^00002 3");
        Checks.wrong(1, "archive 2000 ^23456 3");
        Checks.wrong(1, "archive 2000 2 3;^approves");
        Checks.wrong(1, "archive 2000 2 3;class ^abcdefgh 1 1");
        Checks.wrong(1, "archive 2000 2 3;^List");
        Checks.wrong(1, "archive 2000 2 3;^lIst");
        for (String word : new String[] {"xlass", "fox", "leader", "deal", "bequest", "pack", "love", "fist", "atrike",
            "bpprove", "mass", "depeat", "clasz", "bot", "readen", "sea", "sealed", "stroke", "lists"}) {
            Checks.wrong(1, BOXES + "^" + word + " 0 1 1");
        }
        Checks.wrong(1, "^brchive 2000 2 3");
        Checks.wrong(1, HEAD + "box 0 1990 ^it 0 0");
        Checks.wrong(1, HEAD + "class a 1 1 ^gorever");
        Checks.wrong(1, "archive 2000 2 3;list^,");
        Checks.wrong(1, "archive 2000 2 3;list^\t");
        Checks.wrong(1, "archive 2000 2 3;list^\n;list");
        Checks.wrong(1, "archive 2000 2 3;list^\0");
        Checks.wrong(1, "archive 2000 2 3;list^-");
        Checks.wrong(1, "archive ^-2000 2 3");
        Checks.wrong(1, "archive 2000 2 3;list^\u00e9");
        Checks.wrong(1, "archive ^99999 2 3");
        RetentionArchive x = Checks.loaded("archive1999 2 3;class a1 0;box 0 1800at 1 2;list");
        Checks.same("year without spaces", x.year(), 1999);
        Checks.same("boxAt without spaces", x.boxAt(1, 2), 0);
    }

    private static void classLines() {
        RetentionArchive x = Checks.loaded("archive 2000 1 1;class abcdef 50 50;class class 1 0 forever;class a 2 3");
        Checks.same("classCount", x.classCount(), 3);
        Checks.same("name", Checks.name(9, i -> x.classLetter(0, i)), "abcdef");
        Checks.same("name", Checks.name(9, i -> x.classLetter(1, i)), "class");
        Checks.same("period", x.period(0), 50);
        Checks.same("closedPeriod", x.closedPeriod(0), 50);
        Checks.same("isPermanent", x.isPermanent(0), false);
        Checks.same("isPermanent", x.isPermanent(1), true);
        String start = "archive 2000 1 1;class ab 2 3;";
        Checks.wrong(1, start + "class^");
        Checks.wrong(1, start + "class ^7");
        Checks.wrong(1, start + "class ^;");
        Checks.wrong(3, start + "class ^abcdefg 1 1");
        Checks.wrong(3, start + "class ^forever 1 1");
        Checks.wrong(3, start + "class ^ab 1 1");
        Checks.right(start + "class a 1 1;class abc 1 1;class ba 1 1;reader ab 1");
        Checks.wrong(1, start + "class a^");
        Checks.wrong(1, start + "class a ^b 1");
        Checks.wrong(2, start + "class a ^0 1");
        Checks.wrong(2, start + "class a ^51 1");
        Checks.wrong(1, start + "class a 1 ^forever");
        Checks.wrong(2, start + "class a 1 ^51");
        Checks.wrong(1, start + "class a 1 1 ^2");
        Checks.wrong(1, start + "class a 1 1 ^foreve");
        Checks.wrong(1, start + "class a 1 1 ^forevers");
        Checks.wrong(1, start + "class a 1 1 forever ^forever");
        Checks.wrong(1, start + "class a 1 1 forever;^");
        String eight = "archive 2000 1 1;class a 1 1;class b 1 1;class c 1 1;class d 1 1;class e 1 1;class f 1 1;"
                + "class g 1 1;class h 1 1";
        Checks.right(eight);
        Checks.wrong(4, eight + ";^class");
        Checks.wrong(4, eight + ";^class a");
    }

    private static void boxLines() {
        RetentionArchive x = Checks.loaded(HEAD + "box 0 1800 at 0 1;box 1 2000;box 1 1999;box 0 1900 at 1 2");
        Checks.same("box 0", Checks.box(x, 0),
                "box 0 1800 at 0,1 0 lent -1/-1 due 1811/0 obstacle 0 waiting 0/-1");
        Checks.same("box 1", Checks.box(x, 1),
                "box 1 2000 at 0,0 0 lent -1/-1 due 2006/0 obstacle 2 waiting 0/-1");
        Checks.same("place 2", x.boxAt(0, 2), 2);
        Checks.same("place 5", x.boxAt(1, 2), 3);
        Checks.wrong(2, "archive 2000 1 1;box ^0 1990");
        Checks.wrong(2, HEAD + "box ^2 1990");
        Checks.wrong(1, HEAD + "box^");
        Checks.wrong(1, HEAD + "box ^tax 1990");
        Checks.wrong(1, HEAD + "box 0^");
        Checks.wrong(1, HEAD + "box 0^;");
        Checks.wrong(2, HEAD + "box 0 ^1799");
        Checks.wrong(2, HEAD + "box 0 ^2001");
        Checks.right(HEAD + "pass 1;box 0 2001");
        Checks.wrong(2, HEAD + "pass 1;box 0 ^2002");
        Checks.wrong(1, HEAD + "box 0 1990 ^1");
        Checks.wrong(1, HEAD + "box 0 1990 ^a");
        Checks.wrong(1, HEAD + "box 0 1990 at^");
        Checks.wrong(1, HEAD + "box 0 1990 at ^at");
        Checks.wrong(2, HEAD + "box 0 1990 at ^2 0");
        Checks.wrong(1, HEAD + "box 0 1990 at 1^");
        Checks.wrong(1, HEAD + "box 0 1990 at 1 ^;");
        Checks.wrong(2, HEAD + "box 0 1990 at 1 ^3");
        Checks.wrong(3, HEAD + "box 0 1990 at 1 1;box 0 1990 at 1 ^1");
        Checks.wrong(3, HEAD + "box 0 1990;box 0 1990 at 0 ^0");
        Checks.wrong(1, HEAD + "box 0 1990 at 1 1 ^at");
        String small = "archive 2000 1 1;class a 1 1;box 0 1990";
        Checks.wrong(4, small + ";^box");
        Checks.wrong(4, small + ";^box 0 1990 at 0 0");
        Checks.right(small + ";list;approve;box 0 1990 at 0 0");
        String many = "archive 2000 6 8;class a 1 1;repeat 8(box 0 1990;box 0 1990;box 0 1990";
        Checks.right(many + ")");
        Checks.same("boxCount", Checks.loaded(many + ")").boxCount(), 24);
        Checks.wrong(4, many + ");^box 0 1990");
        Checks.wrong(4, many + ");list;approve;^box 0 1990");
        Checks.wrong(4, many.replace("repeat 8(", "repeat 9(^") + ")");
    }

    private static void readerLines() {
        RetentionArchive x = Checks.loaded("archive 2000 1 1;reader z 4;reader reader 1;class z 1 1");
        Checks.same("readerCount", x.readerCount(), 2);
        Checks.same("name", Checks.name(9, i -> x.readerLetter(1, i)), "reader");
        Checks.same("loanLimit", x.loanLimit(0), 4);
        String start = "archive 2000 1 1;class tax 1 1;reader ann 2;";
        Checks.wrong(1, start + "reader^");
        Checks.wrong(1, start + "reader ^1 1");
        Checks.wrong(3, start + "reader ^ann 1");
        Checks.wrong(3, start + "reader ^request 1");
        Checks.wrong(1, start + "reader ^readerss 1");
        Checks.right(start + "reader tax 1");
        Checks.wrong(1, start + "reader bob^");
        Checks.wrong(1, start + "reader bob ^one");
        Checks.wrong(2, start + "reader bob ^0");
        Checks.wrong(2, start + "reader bob ^5");
        Checks.wrong(1, start + "reader bob 4 ^forever");
        String six = "archive 2000 1 1;reader a 1;reader b 1;reader c 1;reader d 1;reader e 1;reader f 1";
        Checks.right(six);
        Checks.wrong(4, six + ";^reader g 1");
        Checks.wrong(4, six + ";^reader 1");
    }

    private static void sealLines() {
        RetentionArchive x = Checks.loaded(BOXES + "seal 0 2000;seal 1 9999;seal 1 2005;pass 1");
        Checks.same("sealedUntil", x.sealedUntil(0), 2000);
        Checks.same("isSealed", x.isSealed(0), false);
        Checks.same("sealedUntil", x.sealedUntil(1), 2005);
        Checks.same("isSealed", x.isSealed(1), true);
        Checks.wrong(1, BOXES + "seal^");
        Checks.wrong(1, BOXES + "seal ^a");
        Checks.wrong(2, BOXES + "seal ^2 2005");
        Checks.wrong(3, BOXES + "list;approve;seal ^0 2005");
        Checks.wrong(1, BOXES + "seal 0^");
        Checks.wrong(2, BOXES + "seal 0 ^1999");
        Checks.wrong(2, BOXES + "pass 1;seal 0 ^2000");
        Checks.wrong(1, BOXES + "seal 0 ^10000");
        Checks.wrong(1, BOXES + "seal 0 2000 ^at");
    }

    private static void requestAndBackLines() {
        RetentionArchive x = Checks.loaded(BOXES + "request 0 0;request 1 0;request 0 1;back 0");
        Checks.same("the box of the first reader", x.borrower(0), 1);
        Checks.same("the box that is waited for", x.borrower(1), -1);
        Checks.same("the reader who waits", x.nextReader(1), 0);
        Checks.wrong(1, BOXES + "request^");
        Checks.wrong(1, BOXES + "request ^ann 0");
        Checks.wrong(2, BOXES + "request ^2 0");
        Checks.wrong(2, HEAD + "box 0 1988;request ^0 0");
        Checks.wrong(1, BOXES + "request 0^");
        Checks.wrong(2, BOXES + "request 0 ^2");
        Checks.wrong(3, BOXES + "request 0 0;request 0 ^0");
        Checks.wrong(3, BOXES + "request 0 0;request 1 0;request 1 ^0");
        Checks.wrong(3, BOXES + "seal 0 2000;request 0 ^0");
        Checks.wrong(3, BOXES + "list;approve;request 0 ^0");
        Checks.wrong(3, BOXES + "box 0 1998;request 0 ^2");
        Checks.right(BOXES + "box 0 1997;request 0 2");
        Checks.wrong(1, BOXES + "request 0 0 ^0");
        String four = BOXES + "reader c 1;reader d 1;reader e 1;request 0 0;request 1 0;request 2 0;request 3 0";
        Checks.right(four);
        Checks.wrong(3, four + ";request 4 ^0");
        Checks.wrong(1, BOXES + "back^");
        Checks.wrong(2, BOXES + "back ^2");
        Checks.wrong(3, BOXES + "back ^0");
        Checks.wrong(3, BOXES + "list;approve;back ^0");
        Checks.wrong(1, BOXES + "request 0 0;back 0 ^0");
    }

    private static void moveLines() {
        RetentionArchive x = Checks.loaded(BOXES + "move 0 1 2;move 1 0 0");
        Checks.same("boxAt", x.boxAt(1, 2), 0);
        Checks.same("boxAt", x.boxAt(0, 0), 1);
        Checks.same("boxAt", x.boxAt(0, 1), -1);
        Checks.wrong(1, BOXES + "move^");
        Checks.wrong(2, BOXES + "move ^2 1 1");
        Checks.wrong(3, BOXES + "list;approve;move ^0 1 1");
        Checks.wrong(1, BOXES + "move 0 ^at 1 1");
        Checks.wrong(2, BOXES + "move 0 ^2 1");
        Checks.wrong(2, BOXES + "move 0 1 ^3");
        Checks.wrong(3, BOXES + "move 0 0 ^1");
        Checks.wrong(3, BOXES + "move 0 0 ^0");
        Checks.wrong(1, BOXES + "move 0 1^");
        Checks.wrong(1, BOXES + "move 0 1 1 ^1");
        Checks.right(BOXES + "list;approve;move 1 0 0");
    }

    private static void listLines() {
        RetentionArchive x = Checks.loaded(BOXES + "box 0 1980;list;strike 0 20");
        Checks.same("listLength", x.listLength(), 1);
        Checks.same("listedBox", x.listedBox(0), 2);
        Checks.same("postponement", x.postponement(0), 20);
        Checks.same("destroyedCount", x.destroyedCount(), 0);
        RetentionArchive y = Checks.loaded(BOXES + "box 0 1980;list;strike 0 1;approve");
        Checks.same("listLength after approve", y.listLength(), 0);
        Checks.same("destroyedCount", y.destroyedCount(), 1);
        Checks.same("isDestroyed", y.isDestroyed(2), true);
        Checks.wrong(3, BOXES + "strike ^0 1");
        Checks.wrong(3, BOXES + "list;strike ^1 1");
        Checks.wrong(3, BOXES + "list;strike 0 1;strike ^0 1");
        Checks.wrong(3, BOXES + "list;approve;strike ^0 1");
        Checks.wrong(2, BOXES + "list;strike ^2 1");
        Checks.wrong(2, BOXES + "list;strike 0 ^0");
        Checks.wrong(2, BOXES + "list;strike 0 ^21");
        Checks.wrong(1, BOXES + "list;strike^");
        Checks.wrong(1, BOXES + "list;strike 0^");
        Checks.wrong(1, BOXES + "list;strike 0 1 ^1");
        Checks.wrong(1, BOXES + "list ^0");
        Checks.wrong(1, BOXES + "approve ^list");
    }

    private static void passLines() {
        Checks.same("year", Checks.loaded("archive 2000 1 1;pass 50").year(), 2050);
        Checks.wrong(1, HEAD + "pass^");
        Checks.wrong(1, HEAD + "pass ^a");
        Checks.wrong(2, HEAD + "pass ^0");
        Checks.wrong(2, HEAD + "pass ^51");
        Checks.wrong(1, HEAD + "pass 1 ^1");
        String all = "archive 2500 1 1;repeat 9(pass 50);pass 49;pass 1";
        Checks.same("year after 500 years", Checks.loaded(all).year(), 3000);
        Checks.wrong(4, all + ";pass ^1");
        Checks.wrong(2, all + ";pass ^51");
        Checks.wrong(2, all + ";pass ^0");
        Checks.wrong(4, "archive 2500 1 1;repeat 9(pass 50);pass 1;pass ^50");
        Checks.wrong(4, "archive 2500 1 1;repeat 9(repeat 2(pass ^50))");
        Checks.right("archive 2500 1 1;repeat 5(repeat 2(pass 50))");
    }

    private static void repeatLines() {
        Checks.same("year", Checks.loaded("archive 2000 1 1;repeat 3 (pass 2;pass 1);pass 1").year(), 2010);
        Checks.same("year", Checks.loaded("archive 2000 1 1;repeat 1(pass 2)").year(), 2002);
        Checks.wrong(1, HEAD + "repeat^");
        Checks.wrong(1, HEAD + "repeat ^(list)");
        Checks.wrong(2, HEAD + "repeat ^0 (list)");
        Checks.wrong(2, HEAD + "repeat ^10 (list)");
        Checks.wrong(1, HEAD + "repeat 2^");
        Checks.wrong(1, HEAD + "repeat 2 ^list");
        Checks.wrong(1, HEAD + "repeat 2 (^)");
        Checks.wrong(1, HEAD + "repeat 2 (^;list)");
        Checks.wrong(1, HEAD + "repeat 2 (list;^)");
        Checks.wrong(1, HEAD + "repeat 2 (list^");
        Checks.wrong(1, HEAD + "repeat 2 (list  ^");
        Checks.wrong(1, HEAD + "repeat 2 (list ^list)");
        Checks.wrong(1, HEAD + "repeat 2 (list ^(list)");
        Checks.wrong(1, HEAD + "repeat 2 (list)^)");
        Checks.wrong(1, HEAD + "repeat 2 (list) ^list");
        Checks.wrong(1, HEAD + "repeat 2 (list);^");
        Checks.wrong(1, HEAD + "^(list)");
        Checks.wrong(1, HEAD + "repeat 2 ^;");
        Checks.wrong(3, "archive 2000 1 1;repeat 2 (class ^a 1 1)");
        Checks.right("archive 2000 1 1;repeat 1 (class a 1 1)");
        Checks.wrong(3, "archive 2000 1 1;repeat 2 (class ^a 1 1) zap");
        Checks.wrong(1, "archive 2000 1 1;repeat 2 (class a 1 1 ^zap)");
        Checks.wrong(2, HEAD + "box 0 1990;repeat 2(seal 0 ^2000;pass 1)");
        Checks.wrong(4, HEAD + "repeat 4(^box 1 1990;box 1 1990)");
        Checks.right(HEAD + "repeat 3(box 1 1990;box 1 1990)");
        Checks.right(HEAD + "repeat 1(class a 1 1)");
        Checks.wrong(3, BOXES + "repeat 2(request 0 0;request 0 ^0)");
        Checks.wrong(1, HEAD + "repeat 2(list;class b 1 1 forever ^forever)");
        RetentionArchive x = Checks.loaded(HEAD + "repeat 1(class x 1 1 forever)");
        Checks.same("forever in front of a bracket", x.isPermanent(2), true);
        Checks.same("at in front of a bracket", Checks.loaded(HEAD + "repeat 1(box 0 1990 at 1 2)").boxAt(1, 2), 0);
    }

    private static void repeatsInsideRepeats() {
        Checks.same("year", Checks.loaded("archive 2000 1 1;repeat 3 (pass 1;repeat 4(pass 2);pass 3)").year(), 2036);
        Checks.same("year", Checks.loaded("archive 2000 1 1;repeat 2(repeat 2(pass 1);repeat 3(pass 2))").year(),
                2016);
        Checks.same("year", Checks.loaded("archive 2000 1 1;repeat 2(repeat 2(pass 1));repeat 2(repeat 2(pass 1))")
                .year(), 2008);
        Checks.wrong(4, HEAD + "repeat 2(repeat 2(^repeat 2(list)))");
        Checks.wrong(4, HEAD + "repeat 2(repeat 2(list;^repeat");
        Checks.right(HEAD + "repeat 2(repeat 2(list);repeat 2(list));repeat 9(repeat 9(list))");
        Checks.wrong(1, HEAD + "repeat 2(repeat 2(list)^");
        Checks.wrong(1, HEAD + "repeat 2(repeat 2(list^");
        Checks.wrong(1, HEAD + "repeat 2(repeat 2(list))^);");
        Checks.wrong(1, HEAD + "repeat 2(repeat 2(list) ^list)");
        Checks.right("archive 2000 1 1;" + "repeat 9(repeat 9(" + "list;".repeat(111) + "list))");
    }

    private static void linesTakeEffectFromLeftToRight() {
        RetentionArchive x = Checks.loaded("archive 2000 1 2;class a 5 0;box 0 1990;box 0 1991;reader r 1;request 0 1;"
                + "list;approve;box 0 2000;pass 2;seal 2 2002;pass 4;list;approve;box 0 2006;list");
        Checks.same("isDestroyed", x.isDestroyed(0), true);
        Checks.same("isDestroyed", x.isDestroyed(1), true);
        Checks.same("isDestroyed", x.isDestroyed(2), true);
        Checks.same("placeOf", x.placeOf(3), 0);
        Checks.same("listLength", x.listLength(), 0);
        Checks.same("load answers the number of boxes", Checks.load(x, BOXES + "list;approve"), 2);
    }
}
