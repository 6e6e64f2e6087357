import java.nio.charset.StandardCharsets;

/** What the tests share: counting of answers, loading of texts, and a picture of all that an object tells. */
final class Checks {
    static int passed = 0;
    static int failed = 0;

    interface Call {
        void run();
    }

    private Checks() {
    }

    static void same(String what, Object got, Object due) {
        if (got.equals(due)) {
            passed++;
        } else {
            failed++;
            System.out.println(what + " answered " + got + ", due is " + due);
        }
    }

    /** The exact name of what the call throws, or "nothing". */
    static String thrownBy(Call call) {
        try {
            call.run();
            return "nothing";
        } catch (RuntimeException e) {
            return e.getClass().getSimpleName();
        }
    }

    static void throwsState(String what, Call call) {
        same(what + " throws", thrownBy(call), "IllegalStateException");
    }

    static void throwsIndex(String what, Call call) {
        same(what + " throws", thrownBy(call), "IndexOutOfBoundsException");
    }

    static void throwsArgument(String what, Call call) {
        same(what + " throws", thrownBy(call), "IllegalArgumentException");
    }

    /** As above, and the object tells the same as before. */
    static void refusesIndex(RetentionArchive x, String what, Call call) {
        String before = picture(x);
        throwsIndex(what, call);
        same(what + " changes nothing", picture(x), before);
    }

    static void refusesArgument(RetentionArchive x, String what, Call call) {
        String before = picture(x);
        throwsArgument(what, call);
        same(what + " changes nothing", picture(x), before);
    }

    static void refusesState(RetentionArchive x, String what, Call call) {
        String before = picture(x);
        throwsState(what, call);
        same(what + " changes nothing", picture(x), before);
    }

    // ---- texts

    static byte[] bytesOf(String text) {
        return text.getBytes(StandardCharsets.ISO_8859_1);
    }

    /** Appends a text, filled up with spaces to a multiple of 20 bytes. */
    static void append(RetentionArchive x, String text) {
        byte[] bytes = bytesOf(text);
        for (int at = 0; at < bytes.length; at += 20) {
            x.append(four(bytes, at), four(bytes, at + 4), four(bytes, at + 8), four(bytes, at + 12),
                    four(bytes, at + 16));
        }
    }

    static int four(byte[] bytes, int at) {
        int number = 0;
        for (int i = at; i < at + 4; i++) {
            number = number << 8 | (i < bytes.length ? bytes[i] & 255 : ' ');
        }
        return number;
    }

    static int load(RetentionArchive x, String text) {
        append(x, text);
        return x.load(text.length());
    }

    static RetentionArchive loaded(String text) {
        RetentionArchive x = new RetentionArchive();
        String thrown = thrownBy(() -> load(x, text));
        same("load of \"" + text + "\" throws", thrown, "nothing");
        return x;
    }

    /** The text has this error; the byte of the wrong token is marked with a caret in front of it. */
    static void wrong(int code, String marked) {
        int position = marked.indexOf('^');
        String text = marked.substring(0, position) + marked.substring(position + 1);
        wrongAt(code, position, text);
    }

    static void wrongAt(int code, int position, String text) {
        RetentionArchive x = new RetentionArchive();
        throwsArgument("load of \"" + text + "\"", () -> load(x, text));
        same("parseError of \"" + text + "\"", x.parseError(), code);
        same("errorPosition of \"" + text + "\"", x.errorPosition(), position);
        throwsState("year after the wrong text \"" + text + "\"", x::year);
    }

    static void right(String text) {
        RetentionArchive x = loaded(text);
        same("parseError of \"" + text + "\"", x.parseError(), 0);
        same("errorPosition of \"" + text + "\"", x.errorPosition(), -1);
    }

    static String written(RetentionArchive x) {
        StringBuilder text = new StringBuilder();
        for (int i = 0; i < 1000; i++) {
            try {
                text.append((char) x.textByte(i));
            } catch (IndexOutOfBoundsException e) {
                return text.toString();
            }
        }
        return text.toString();
    }

    static String name(int count, java.util.function.IntUnaryOperator letter) {
        StringBuilder name = new StringBuilder();
        for (int i = 0; i < count && letter.applyAsInt(i) != -1; i++) {
            name.append((char) letter.applyAsInt(i));
        }
        return name.toString();
    }

    // ---- pictures

    /** All that the object tells, but for the predictions. */
    static String picture(RetentionArchive x) {
        StringBuilder all = new StringBuilder();
        all.append("input ").append(x.bufferLength()).append(' ').append(x.parseError()).append(' ')
                .append(x.errorPosition()).append(" undoable ").append(x.undoable())
                .append(" written ").append(written(x)).append('\n');
        return thrownBy(x::year).equals("nothing") ? all.append(state(x)).toString() : all.append("none").toString();
    }

    /** All that the object tells now, and would tell after a load, after each undo and after each restore; it uses it up. */
    static String whole(RetentionArchive x) {
        return picture(x) + "\nbytes " + thrownBy(() -> x.load(x.bufferLength())) + ' ' + x.errorPosition() + archiveOf(x);
    }

    /** As above, without the input; for an object whose last text, if there was one, had an error. */
    static String archiveOf(RetentionArchive x) {
        StringBuilder all = new StringBuilder("\nwritten ").append(written(x));
        if (thrownBy(x::year).equals("nothing")) {
            all.append('\n').append(state(x)).append("\nlater ").append(x.destroyableAfter(3)).append(' ')
                    .append(x.freeAfter(3)).append(' ').append(x.yearsUntilFree(8));
        }
        while (thrownBy(x::undo).equals("nothing")) {
            all.append("\nundone, left ").append(x.undoable()).append('\n').append(state(x));
        }
        for (int slot = 0; slot < 2; slot++) {
            int number = slot;
            String thrown = thrownBy(() -> x.restore(number));
            all.append("\nslot ").append(thrown).append('\n').append(thrown.equals("nothing") ? state(x) : "");
        }
        return all.toString();
    }

    /** The state of the archive alone. */
    static String state(RetentionArchive x) {
        StringBuilder all = new StringBuilder();
        all.append(x.year()).append(' ').append(x.shelfCount()).append('x').append(x.placesPerShelf())
                .append(" free ").append(x.freePlaces()).append('/').append(x.firstFreeMark())
                .append(" destroyed ").append(x.destroyedCount()).append(" lent ").append(x.loanCount())
                .append(" faults ").append(x.inconsistencies()).append(" due ").append(x.nextDueBox())
                .append(' ').append(x.usedShare()).append(' ').append(x.meanAge()).append("\nlist");
        for (int i = 0; i < x.listLength(); i++) {
            all.append(' ').append(x.listedBox(i));
        }
        for (int c = 0; c < x.classCount(); c++) {
            int number = c;
            all.append("\nclass ").append(name(9, i -> x.classLetter(number, i))).append(' ').append(x.period(c))
                    .append(' ').append(x.closedPeriod(c)).append(' ').append(x.isPermanent(c));
        }
        for (int r = 0; r < x.readerCount(); r++) {
            int number = r;
            all.append("\nreader ").append(name(9, i -> x.readerLetter(number, i))).append(' ')
                    .append(x.loanLimit(r)).append(' ').append(x.loansOf(r)).append(" obstacles ");
            for (int b = 0; b < x.boxCount(); b++) {
                all.append(x.requestObstacle(r, b));
            }
        }
        for (int b = 0; b < x.boxCount(); b++) {
            all.append('\n').append(box(x, b));
        }
        for (int s = 0; s < x.shelfCount(); s++) {
            all.append("\nshelf");
            for (int p = 0; p < x.placesPerShelf(); p++) {
                all.append(' ').append(x.boxAt(s, p));
            }
        }
        return all.toString();
    }

    static String box(RetentionArchive x, int b) {
        return "box " + x.classOf(b) + " " + x.closingYear(b) + " at " + x.shelfOf(b) + "," + x.placeOf(b)
                + (x.isDestroyed(b) ? " destroyed" : "") + (x.isSealed(b) ? " sealed" : "") + " " + x.sealedUntil(b)
                + " lent " + x.borrower(b) + "/" + x.loanYear(b) + " due " + x.dueYear(b) + "/" + x.postponement(b)
                + " obstacle " + x.destructionObstacle(b) + " waiting " + x.waitingReaders(b) + "/"
                + x.nextReader(b);
    }
}
