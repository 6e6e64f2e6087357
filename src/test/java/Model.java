import java.util.ArrayList;
import java.util.Comparator;
import java.util.List;
import java.util.regex.Matcher;
import java.util.regex.Pattern;

/** The document told a second time, as plainly as the Java library lets one, to be compared in random runs. */
public final class Model {
    private static final Pattern TOKEN = Pattern.compile("[a-z]+|[0-9]+|[^ ]", Pattern.DOTALL);

    private static final class RecordClass {
        String name;
        int period;
        int closed;
        boolean permanent;
    }

    private static final class Reader {
        String name;
        int limit;
    }

    private static final class Box {
        RecordClass recordClass;
        int closing;
        int postponed;
        boolean destroyed;
        int shelf;
        int place;
        Integer seal;
        Reader borrower;
        int since;
        List<Reader> queue = new ArrayList<>();
    }

    private static final class TextError extends RuntimeException {
        private static final long serialVersionUID = 1L;
        final int code;
        final int position;

        TextError(int code, int position) {
            this.code = code;
            this.position = position;
        }
    }

    private static final class State {
        int year;
        int shelves;
        int places;
        List<RecordClass> classes = new ArrayList<>();
        List<Reader> readers = new ArrayList<>();
        List<Box> boxes = new ArrayList<>();
        List<Box> list = new ArrayList<>();

        State copy() {
            State c = new State();
            c.year = year;
            c.shelves = shelves;
            c.places = places;
            c.classes.addAll(classes);
            c.readers.addAll(readers);
            for (Box box : boxes) {
                Box b = new Box();
                b.recordClass = box.recordClass;
                b.closing = box.closing;
                b.postponed = box.postponed;
                b.destroyed = box.destroyed;
                b.shelf = box.shelf;
                b.place = box.place;
                b.seal = box.seal;
                b.borrower = box.borrower;
                b.since = box.since;
                b.queue.addAll(box.queue);
                c.boxes.add(b);
            }
            for (Box box : list) {
                c.list.add(c.boxes.get(boxes.indexOf(box)));
            }
            return c;
        }

        Box at(int shelf, int place) {
            return boxes.stream().filter(b -> !b.destroyed && b.shelf == shelf && b.place == place).findFirst()
                    .orElse(null);
        }

        List<Integer> freeMarks() {
            List<Integer> marks = new ArrayList<>();
            for (int s = 0; s < shelves; s++) {
                for (int p = 0; p < places; p++) {
                    if (at(s, p) == null) {
                        marks.add(s * places + p);
                    }
                }
            }
            return marks;
        }

        Box add(RecordClass recordClass, int closing, int mark) {
            Box box = new Box();
            box.recordClass = recordClass;
            box.closing = closing;
            box.shelf = mark / places;
            box.place = mark % places;
            boxes.add(box);
            return box;
        }

        int due(Box b) {
            return b.closing + b.recordClass.period + b.postponed + 1;
        }

        boolean sealed(Box b) {
            return b.seal != null && year <= b.seal;
        }

        int obstacle(Box b) {
            boolean[] obstacles = {b.destroyed, b.recordClass.permanent, year < due(b), sealed(b), b.borrower != null};
            return first(obstacles);
        }

        int requestObstacle(Reader r, Box b) {
            boolean[] obstacles = {b.destroyed, sealed(b), !(year > b.closing + b.recordClass.closed),
                b.borrower == r || b.queue.contains(r), b.queue.size() == 3};
            return first(obstacles);
        }

        static int first(boolean[] obstacles) {
            for (int i = 0; i < obstacles.length; i++) {
                if (obstacles[i]) {
                    return i + 1;
                }
            }
            return 0;
        }

        long loans(Reader r) {
            return boxes.stream().filter(b -> b.borrower == r).count();
        }

        void request(Reader r, Box b) {
            if (b.borrower == null && loans(r) < r.limit) {
                b.borrower = r;
                b.since = year;
            } else {
                b.queue.add(r);
            }
        }

        void serve(Box b) {
            if (!b.destroyed && !sealed(b) && b.borrower == null) {
                for (Reader r : new ArrayList<>(b.queue)) {
                    if (b.borrower == null && loans(r) < r.limit) {
                        b.borrower = r;
                        b.since = year;
                        b.queue.remove(r);
                    }
                }
            }
        }

        void pass(int years) {
            for (int i = 0; i < years; i++) {
                year++;
                boxes.stream().filter(b -> b.borrower != null && b.since + 2 <= year).forEach(b -> b.borrower = null);
                boxes.forEach(this::serve);
            }
        }

        void makeList() {
            list = new ArrayList<>(boxes);
            list.removeIf(b -> obstacle(b) >= 1 && obstacle(b) <= 4);
            list.sort(Comparator.comparingInt(this::due));
        }

        int approve() {
            int count = 0;
            for (Box b : list) {
                if (obstacle(b) == 0) {
                    b.destroyed = true;
                    b.seal = null;
                    b.queue.clear();
                    count++;
                }
            }
            list = new ArrayList<>();
            return count;
        }
    }

    private String input = "";
    private int error = 0;
    private int errorAt = -1;
    private State now = null;
    private final State[] slots = new State[2];
    private final List<State> undo = new ArrayList<>();
    private String text = "";

    // ---- the text format

    private final class Reading {
        final String source;
        final Matcher matcher;
        final State s = new State();
        int passed = 0;
        String token;
        int start;
        int behind = 0;

        Reading(String source) {
            this.source = source;
            this.matcher = TOKEN.matcher(source);
        }

        void next() {
            if (matcher.find(behind)) {
                token = matcher.group();
                start = matcher.start();
                behind = matcher.end();
            } else {
                token = "";
                start = source.length();
                behind = source.length();
            }
        }

        void errorIf(boolean wrong, int code) {
            if (wrong) {
                throw new TextError(code, start);
            }
        }

        int number(int least, int most) {
            next();
            errorIf(!token.matches("[0-9]{1,4}"), 1);
            int n = Integer.parseInt(token);
            errorIf(n < least || n > most, 2);
            return n;
        }

        String name(boolean taken) {
            errorIf(!token.matches("[a-z]{1,7}"), 1);
            errorIf(token.length() == 7 || taken, 3);
            return token;
        }

        boolean optional(String word) {
            int before = behind;
            next();
            if (!token.equals(word)) {
                behind = before;
            }
            return token.equals(word);
        }

        Box box() {
            return s.boxes.get(number(0, s.boxes.size() - 1));
        }

        int freeMark() {
            int shelf = number(0, s.shelves - 1);
            int place = number(0, s.places - 1);
            errorIf(s.at(shelf, place) != null, 3);
            return shelf * s.places + place;
        }

        void text() {
            next();
            errorIf(!token.equals("archive"), 1);
            s.year = number(1900, 2500);
            s.shelves = number(1, 6);
            s.places = number(1, 8);
            next();
            if (token.equals(";")) {
                lines(0);
            }
            errorIf(!token.isEmpty(), 1);
        }

        void lines(int depth) {
            do {
                next();
                line(depth);
                next();
            } while (token.equals(";"));
        }

        void line(int depth) {
            switch (token) {
                case "class" -> {
                    errorIf(s.classes.size() == 8, 4);
                    RecordClass c = new RecordClass();
                    next();
                    c.name = name(s.classes.stream().anyMatch(o -> o.name.equals(token)));
                    c.period = number(1, 50);
                    c.closed = number(0, 50);
                    c.permanent = optional("forever");
                    s.classes.add(c);
                }
                case "box" -> {
                    errorIf(s.boxes.size() == 24 || s.freeMarks().isEmpty(), 4);
                    RecordClass c = s.classes.get(number(0, s.classes.size() - 1));
                    int closing = number(1800, s.year);
                    s.add(c, closing, optional("at") ? freeMark() : s.freeMarks().get(0));
                }
                case "reader" -> {
                    errorIf(s.readers.size() == 6, 4);
                    Reader r = new Reader();
                    next();
                    r.name = name(s.readers.stream().anyMatch(o -> o.name.equals(token)));
                    r.limit = number(1, 4);
                    s.readers.add(r);
                }
                case "seal" -> {
                    Box b = box();
                    errorIf(b.destroyed, 3);
                    b.seal = number(s.year, 9999);
                }
                case "request" -> {
                    Reader r = s.readers.get(number(0, s.readers.size() - 1));
                    Box b = box();
                    errorIf(s.requestObstacle(r, b) != 0, 3);
                    s.request(r, b);
                }
                case "back" -> {
                    Box b = box();
                    errorIf(b.borrower == null, 3);
                    b.borrower = null;
                    s.serve(b);
                }
                case "move" -> {
                    Box b = box();
                    errorIf(b.destroyed, 3);
                    int mark = freeMark();
                    b.shelf = mark / s.places;
                    b.place = mark % s.places;
                }
                case "list" -> s.makeList();
                case "strike" -> {
                    Box b = box();
                    errorIf(!s.list.contains(b), 3);
                    b.postponed += number(1, 20);
                    s.list.remove(b);
                }
                case "approve" -> s.approve();
                case "pass" -> {
                    int years = number(1, 50);
                    errorIf(passed + years > 500, 4);
                    passed += years;
                    s.pass(years);
                }
                case "repeat" -> {
                    errorIf(depth == 2, 4);
                    int times = number(1, 9);
                    next();
                    errorIf(!token.equals("("), 1);
                    int body = behind;
                    while (times-- > 0) {
                        behind = body;
                        lines(depth + 1);
                        errorIf(!token.equals(")"), 1);
                    }
                }
                default -> throw new TextError(1, start);
            }
        }
    }

    // ---- the face

    public int append(int a, int b, int c, int d, int e) {
        if (input.length() + 20 > 600) {
            return -1;
        }
        StringBuilder more = new StringBuilder(input);
        for (int four : new int[] {a, b, c, d, e}) {
            more.append((char) (four >>> 24)).append((char) (four >>> 16 & 255)).append((char) (four >>> 8 & 255))
                    .append((char) (four & 255));
        }
        input = more.toString();
        return input.length();
    }

    public int load(int length) {
        index(length >= 0 && length <= input.length());
        Reading reading = new Reading(input.substring(0, length));
        input = "";
        try {
            reading.text();
        } catch (TextError e) {
            error = e.code;
            errorAt = e.position;
            throw new IllegalArgumentException();
        }
        error = 0;
        errorAt = -1;
        now = reading.s;
        undo.clear();
        slots[0] = null;
        slots[1] = null;
        return now.boxes.size();
    }

    public int parseError() {
        return error;
    }

    public int errorPosition() {
        return errorAt;
    }

    public int bufferLength() {
        return input.length();
    }

    private State need() {
        if (now == null) {
            throw new IllegalStateException();
        }
        return now;
    }

    private static void index(boolean right) {
        if (!right) {
            throw new IndexOutOfBoundsException();
        }
    }

    private static void argument(boolean right) {
        if (!right) {
            throw new IllegalArgumentException();
        }
    }

    private static <T> T get(List<T> list, int number) {
        index(number >= 0 && number < list.size());
        return list.get(number);
    }

    private Box box(int number) {
        return get(need().boxes, number);
    }

    private int numberOf(Box b) {
        return now.boxes.indexOf(b);
    }

    private int numberOf(Reader r) {
        return now.readers.indexOf(r);
    }

    private static int letter(String name, int index) {
        return index < 0 || index >= name.length() ? -1 : name.charAt(index);
    }

    public int year() {
        return need().year;
    }

    public int classCount() {
        return need().classes.size();
    }

    public int boxCount() {
        return need().boxes.size();
    }

    public int readerCount() {
        return need().readers.size();
    }

    public int shelfCount() {
        return need().shelves;
    }

    public int placesPerShelf() {
        return need().places;
    }

    public int freePlaces() {
        return need().freeMarks().size();
    }

    public int firstFreeMark() {
        return need().freeMarks().stream().findFirst().orElse(-1);
    }

    public int boxAt(int shelf, int place) {
        need();
        index(shelf >= 0 && shelf < now.shelves && place >= 0 && place < now.places);
        return numberOf(now.at(shelf, place));
    }

    public int destroyedCount() {
        return (int) need().boxes.stream().filter(b -> b.destroyed).count();
    }

    public int loanCount() {
        return (int) need().boxes.stream().filter(b -> b.borrower != null).count();
    }

    public int inconsistencies() {
        need();
        return 0;
    }

    public int classLetter(int recordClass, int index) {
        return letter(get(need().classes, recordClass).name, index);
    }

    public int period(int recordClass) {
        return get(need().classes, recordClass).period;
    }

    public int closedPeriod(int recordClass) {
        return get(need().classes, recordClass).closed;
    }

    public boolean isPermanent(int recordClass) {
        return get(need().classes, recordClass).permanent;
    }

    public int classOf(int box) {
        return now == null ? need().year : now.classes.indexOf(box(box).recordClass);
    }

    public int closingYear(int box) {
        return box(box).closing;
    }

    public int shelfOf(int box) {
        return box(box).destroyed ? -1 : box(box).shelf;
    }

    public int placeOf(int box) {
        return box(box).destroyed ? -1 : box(box).place;
    }

    public boolean isDestroyed(int box) {
        return box(box).destroyed;
    }

    public boolean isSealed(int box) {
        Box b = box(box);
        return now.sealed(b);
    }

    public int sealedUntil(int box) {
        Box b = box(box);
        return b.seal == null ? 0 : b.seal;
    }

    public int borrower(int box) {
        Box b = box(box);
        return numberOf(b.borrower);
    }

    public int loanYear(int box) {
        Box b = box(box);
        return b.borrower == null ? -1 : b.since;
    }

    public int dueYear(int box) {
        Box b = box(box);
        return now.due(b);
    }

    public int postponement(int box) {
        return box(box).postponed;
    }

    public int destructionObstacle(int box) {
        Box b = box(box);
        return now.obstacle(b);
    }

    public int listLength() {
        return need().list.size();
    }

    public int listedBox(int position) {
        return numberOf(get(need().list, position));
    }

    public int readerLetter(int reader, int index) {
        return letter(get(need().readers, reader).name, index);
    }

    public int loanLimit(int reader) {
        return get(need().readers, reader).limit;
    }

    public int loansOf(int reader) {
        Reader r = get(need().readers, reader);
        return (int) now.loans(r);
    }

    public int requestObstacle(int reader, int box) {
        Reader r = get(need().readers, reader);
        return now.requestObstacle(r, box(box));
    }

    public int waitingReaders(int box) {
        return box(box).queue.size();
    }

    public int nextReader(int box) {
        Box b = box(box);
        return b.queue.isEmpty() ? -1 : numberOf(b.queue.get(0));
    }

    public int destroyableAfter(int years) {
        need();
        argument(years >= 0 && years <= 100);
        State later = now.copy();
        later.pass(years);
        return (int) later.boxes.stream().filter(b -> later.obstacle(b) == 0).count();
    }

    public int freeAfter(int years) {
        need();
        argument(years >= 0 && years <= 100);
        State later = now.copy();
        for (int i = 0; i < years; i++) {
            later.pass(1);
            later.makeList();
            later.approve();
        }
        return later.freeMarks().size();
    }

    public int yearsUntilFree(int count) {
        need();
        argument(count >= 1 && count <= 48);
        for (int years = 0; years <= 100; years++) {
            if (freeAfter(years) >= count) {
                return years;
            }
        }
        return -1;
    }

    public int nextDueBox() {
        return numberOf(need().boxes.stream().filter(b -> !b.destroyed && !b.recordClass.permanent)
                .min(Comparator.comparingInt(now::due)).orElse(null));
    }

    public float usedShare() {
        float places = (float) (need().shelves * now.places);
        return (float) (now.shelves * now.places - now.freeMarks().size()) / places;
    }

    public double meanAge() {
        return need().boxes.stream().filter(b -> !b.destroyed).mapToInt(b -> now.year - b.closing).average().orElse(0.0);
    }

    public int writeMark(int box) {
        Box b = box(box);
        text = (b.destroyed ? "-" : "ABCDEF".charAt(b.shelf) + "" + b.place) + "/" + b.recordClass.name;
        return text.length();
    }

    public int writeShelf(int shelf) {
        need();
        index(shelf >= 0 && shelf < now.shelves);
        text = "";
        for (int place = 0; place < now.places; place++) {
            Box b = now.at(shelf, place);
            text += b == null ? "." : b.borrower != null ? "l" : now.sealed(b) ? "s" : b.recordClass.permanent ? "p"
                    : now.obstacle(b) == 0 ? "d" : "b";
        }
        return text.length();
    }

    public int writeList() {
        need();
        List<String> parts = new ArrayList<>();
        for (Box b : now.list) {
            parts.add(numberOf(b) + ":" + now.due(b));
        }
        text = parts.isEmpty() ? "-" : String.join(" ", parts);
        return text.length();
    }

    public int textByte(int index) {
        index(index >= 0 && index < text.length());
        return text.charAt(index);
    }

    private void change() {
        undo.add(now.copy());
        if (undo.size() > 8) {
            undo.remove(0);
        }
    }

    public int passYears(int years) {
        need();
        argument(years >= 1 && years <= 50);
        change();
        now.pass(years);
        return loanCount();
    }

    public int addBox(int recordClass, int closingYear) {
        RecordClass c = get(need().classes, recordClass);
        argument(closingYear >= 1800 && closingYear <= now.year && now.boxes.size() < 24 && freePlaces() > 0);
        change();
        return numberOf(now.add(c, closingYear, firstFreeMark()));
    }

    public int moveBox(int box, int shelf, int place) {
        Box b = box(box);
        argument(boxAt(shelf, place) == -1 && !b.destroyed);
        change();
        int old = b.shelf * now.places + b.place;
        b.shelf = shelf;
        b.place = place;
        return old;
    }

    public int seal(int box, int lastYear) {
        Box b = box(box);
        argument(lastYear >= now.year && lastYear <= 9999 && !b.destroyed);
        change();
        int old = sealedUntil(box);
        b.seal = lastYear;
        return old;
    }

    public boolean request(int reader, int box) {
        argument(requestObstacle(reader, box) == 0);
        change();
        now.request(now.readers.get(reader), box(box));
        return borrower(box) == reader;
    }

    public int giveBack(int box) {
        Box b = box(box);
        argument(b.borrower != null);
        change();
        b.borrower = null;
        now.serve(b);
        return borrower(box);
    }

    public int makeList() {
        need();
        change();
        now.makeList();
        return now.list.size();
    }

    public int strike(int box, int years) {
        Box b = box(box);
        argument(years >= 1 && years <= 20 && now.list.contains(b));
        change();
        now.list.remove(b);
        b.postponed += years;
        return now.due(b);
    }

    public int approveList() {
        need();
        change();
        return now.approve();
    }

    public int undo() {
        if (undo.isEmpty()) {
            throw new IllegalStateException();
        }
        now = undo.remove(undo.size() - 1);
        return undo.size();
    }

    public int undoable() {
        return undo.size();
    }

    public int save(int slot) {
        need();
        index(slot == 0 || slot == 1);
        slots[slot] = now.copy();
        return now.year;
    }

    public int restore(int slot) {
        index(slot == 0 || slot == 1);
        if (slots[slot] == null) {
            throw new IllegalStateException();
        }
        now = slots[slot].copy();
        undo.clear();
        return now.year;
    }
}
