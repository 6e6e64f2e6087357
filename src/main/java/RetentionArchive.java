/**
 * A register of an archive that keeps boxes on shelves, lends them to readers, and destroys them by lists when their
 * retention periods are over.
 *
 * All rows are made with the object and used again, since what all calls make is counted: a call makes nothing but the
 * exception that it throws, and now and then room for a longer written text.
 */
public final class RetentionArchive {

    /** The value for "none". */
    public static final int NONE = -1;

    private static final int MAX_CLASSES = 8;
    private static final int MAX_BOXES = 24;
    private static final int MAX_READERS = 6;
    private static final int MAX_SHELVES = 6;
    private static final int MAX_PLACES = 8;
    private static final int MAX_WAITING = 3;
    private static final int MAX_NAME = 6;
    private static final int MAX_INPUT = 600;
    private static final int BYTES_PER_APPEND = 20;
    private static final int MAX_UNDO = 8;
    private static final int SLOTS = 2;

    private static final int FIRST_CLOSING_YEAR = 1800;
    private static final int LAST_SEAL_YEAR = 9999;
    private static final int MAX_YEARS_OF_PASS = 50;
    private static final int MAX_YEARS_OF_STRIKE = 20;
    private static final int MAX_YEARS_AHEAD = 100;

    private final Parser parser = new Parser();
    private final Archive archive = new Archive();
    private final Archive forecast = new Archive();
    private final History history = new History();
    private final Slots slots = new Slots();
    private final StringBuilder written = new StringBuilder();
    private boolean loaded;

    public RetentionArchive() {
    }

    // ---- input

    public int append(int a, int b, int c, int d, int e) {
        Input input = parser.input;
        if (input.held + BYTES_PER_APPEND > MAX_INPUT) {
            return NONE;
        }
        input.put(a);
        input.put(b);
        input.put(c);
        input.put(d);
        input.put(e);
        return input.held;
    }

    public int load(int length) throws IndexOutOfBoundsException, IllegalArgumentException {
        if (length < 0 || length > parser.input.held) {
            throw new IndexOutOfBoundsException("length is not within the buffer");
        }
        boolean valid = parser.parse(length);
        parser.input.held = 0;
        if (!valid) {
            throw new IllegalArgumentException("the text has an error");
        }
        archive.copyFrom(parser.draft);
        loaded = true;
        history.forget();
        slots.forget();
        return archive.boxes;
    }

    public int parseError() {
        return parser.error;
    }

    public int errorPosition() {
        return parser.errorAt;
    }

    public int bufferLength() {
        return parser.input.held;
    }

    // ---- archive and shelf marks

    public int year() throws IllegalStateException {
        needArchive();
        return archive.year;
    }

    public int classCount() throws IllegalStateException {
        needArchive();
        return archive.classes.count;
    }

    public int boxCount() throws IllegalStateException {
        needArchive();
        return archive.boxes;
    }

    public int readerCount() throws IllegalStateException {
        needArchive();
        return archive.readers.count;
    }

    public int shelfCount() throws IllegalStateException {
        needArchive();
        return archive.shelves;
    }

    public int placesPerShelf() throws IllegalStateException {
        needArchive();
        return archive.places;
    }

    public int freePlaces() throws IllegalStateException {
        needArchive();
        return archive.countFree();
    }

    public int firstFreeMark() throws IllegalStateException {
        needArchive();
        return archive.firstFree();
    }

    public int boxAt(int shelf, int place) throws IllegalStateException, IndexOutOfBoundsException {
        needArchive();
        needPlace(shelf, place);
        return archive.boxWithMark(archive.markNumber(shelf, place));
    }

    public int destroyedCount() throws IllegalStateException {
        needArchive();
        return archive.boxes - archive.countKept();
    }

    public int loanCount() throws IllegalStateException {
        needArchive();
        return archive.countLent();
    }

    public int inconsistencies() throws IllegalStateException {
        needArchive();
        return archive.countFaults();
    }

    // ---- record classes

    public int classLetter(int recordClass, int index) throws IllegalStateException, IndexOutOfBoundsException {
        needClass(recordClass);
        return letterAt(archive.classes.names[recordClass], index);
    }

    public int period(int recordClass) throws IllegalStateException, IndexOutOfBoundsException {
        needClass(recordClass);
        return archive.classes.periods[recordClass];
    }

    public int closedPeriod(int recordClass) throws IllegalStateException, IndexOutOfBoundsException {
        needClass(recordClass);
        return archive.classes.closedPeriods[recordClass];
    }

    public boolean isPermanent(int recordClass) throws IllegalStateException, IndexOutOfBoundsException {
        needClass(recordClass);
        return archive.classes.permanent[recordClass];
    }

    // ---- boxes

    public int classOf(int box) throws IllegalStateException, IndexOutOfBoundsException {
        needBox(box);
        return archive.classOfBox[box];
    }

    public int closingYear(int box) throws IllegalStateException, IndexOutOfBoundsException {
        needBox(box);
        return archive.closing[box];
    }

    public int shelfOf(int box) throws IllegalStateException, IndexOutOfBoundsException {
        needBox(box);
        return archive.shelfOfMark(archive.mark[box]);
    }

    public int placeOf(int box) throws IllegalStateException, IndexOutOfBoundsException {
        needBox(box);
        return archive.placeOfMark(archive.mark[box]);
    }

    public boolean isDestroyed(int box) throws IllegalStateException, IndexOutOfBoundsException {
        needBox(box);
        return archive.destroyed(box);
    }

    public boolean isSealed(int box) throws IllegalStateException, IndexOutOfBoundsException {
        needBox(box);
        return archive.sealed(box);
    }

    public int sealedUntil(int box) throws IllegalStateException, IndexOutOfBoundsException {
        needBox(box);
        return archive.sealEnd[box];
    }

    public int borrower(int box) throws IllegalStateException, IndexOutOfBoundsException {
        needBox(box);
        return archive.holder[box];
    }

    public int loanYear(int box) throws IllegalStateException, IndexOutOfBoundsException {
        needBox(box);
        return archive.lentIn[box];
    }

    public int dueYear(int box) throws IllegalStateException, IndexOutOfBoundsException {
        needBox(box);
        return archive.due(box);
    }

    public int postponement(int box) throws IllegalStateException, IndexOutOfBoundsException {
        needBox(box);
        return archive.postponed[box];
    }

    public int destructionObstacle(int box) throws IllegalStateException, IndexOutOfBoundsException {
        needBox(box);
        return archive.obstacleToDestroy(box);
    }

    // ---- destruction list

    public int listLength() throws IllegalStateException {
        needArchive();
        return archive.listed;
    }

    public int listedBox(int position) throws IllegalStateException, IndexOutOfBoundsException {
        needArchive();
        if (position < 0 || position >= archive.listed) {
            throw new IndexOutOfBoundsException("no such position of the list");
        }
        return archive.list[position];
    }

    // ---- readers

    public int readerLetter(int reader, int index) throws IllegalStateException, IndexOutOfBoundsException {
        needReader(reader);
        return letterAt(archive.readers.names[reader], index);
    }

    public int loanLimit(int reader) throws IllegalStateException, IndexOutOfBoundsException {
        needReader(reader);
        return archive.readers.limits[reader];
    }

    public int loansOf(int reader) throws IllegalStateException, IndexOutOfBoundsException {
        needReader(reader);
        return archive.countHeldBy(reader);
    }

    public int requestObstacle(int reader, int box) throws IllegalStateException, IndexOutOfBoundsException {
        needReader(reader);
        needBox(box);
        return archive.obstacleToRequest(reader, box);
    }

    public int waitingReaders(int box) throws IllegalStateException, IndexOutOfBoundsException {
        needBox(box);
        return archive.waiting[box];
    }

    public int nextReader(int box) throws IllegalStateException, IndexOutOfBoundsException {
        needBox(box);
        return archive.waiting[box] == 0 ? NONE : archive.queue[box * MAX_WAITING];
    }

    // ---- predictions (the archive does not change)

    public int destroyableAfter(int years) throws IllegalStateException, IllegalArgumentException {
        needArchive();
        needRange(years, 0, MAX_YEARS_AHEAD);
        forecast.copyFrom(archive);
        forecast.pass(years);
        return forecast.countDestroyable();
    }

    public int freeAfter(int years) throws IllegalStateException, IllegalArgumentException {
        needArchive();
        needRange(years, 0, MAX_YEARS_AHEAD);
        forecast.copyFrom(archive);
        for (int passed = 0; passed < years; passed++) {
            forecast.passAndApprove();
        }
        return forecast.countFree();
    }

    public int yearsUntilFree(int count) throws IllegalStateException, IllegalArgumentException {
        needArchive();
        needRange(count, 1, MAX_SHELVES * MAX_PLACES);
        forecast.copyFrom(archive);
        for (int passed = 0; passed <= MAX_YEARS_AHEAD; passed++) {
            if (forecast.countFree() >= count) {
                return passed;
            }
            forecast.passAndApprove();
        }
        return NONE;
    }

    public int nextDueBox() throws IllegalStateException {
        needArchive();
        return archive.firstDue();
    }

    // ---- averages

    public float usedShare() throws IllegalStateException {
        needArchive();
        int all = archive.countPlaces();
        return all == 0 ? 0.0f : (float) (all - archive.countFree()) / (float) all;
    }

    public double meanAge() throws IllegalStateException {
        needArchive();
        int kept = archive.countKept();
        return kept == 0 ? 0.0 : (double) archive.sumOfAges() / (double) kept;
    }

    // ---- written text

    public int writeMark(int box) throws IllegalStateException, IndexOutOfBoundsException {
        needBox(box);
        written.setLength(0);
        if (archive.destroyed(box)) {
            written.append('-');
        } else {
            written.append((char) ('A' + archive.shelfOfMark(archive.mark[box])));
            written.append(archive.placeOfMark(archive.mark[box]));
        }
        written.append('/');
        writeName(archive.classes.names[archive.classOfBox[box]]);
        return written.length();
    }

    public int writeShelf(int shelf) throws IllegalStateException, IndexOutOfBoundsException {
        needArchive();
        needPlace(shelf, 0);
        written.setLength(0);
        for (int place = 0; place < archive.places; place++) {
            written.append(archive.signOfMark(archive.markNumber(shelf, place)));
        }
        return written.length();
    }

    public int writeList() throws IllegalStateException {
        needArchive();
        written.setLength(0);
        for (int position = 0; position < archive.listed; position++) {
            int box = archive.list[position];
            if (position > 0) {
                written.append(' ');
            }
            written.append(box);
            written.append(':');
            written.append(archive.due(box));
        }
        if (archive.listed == 0) {
            written.append('-');
        }
        return written.length();
    }

    public int textByte(int index) throws IndexOutOfBoundsException {
        if (index < 0 || index >= written.length()) {
            throw new IndexOutOfBoundsException("no byte at this index");
        }
        return written.charAt(index);
    }

    // ---- changes

    public int passYears(int years) throws IllegalStateException, IllegalArgumentException {
        needArchive();
        needRange(years, 1, MAX_YEARS_OF_PASS);
        history.remember(archive);
        archive.pass(years);
        return archive.countLent();
    }

    public int addBox(int recordClass, int closingYear)
            throws IllegalStateException, IndexOutOfBoundsException, IllegalArgumentException {
        needClass(recordClass);
        needRange(closingYear, FIRST_CLOSING_YEAR, archive.year);
        if (!archive.takesBox()) {
            throw new IllegalArgumentException("no room for another box");
        }
        history.remember(archive);
        archive.putNewBox(recordClass, closingYear, archive.firstFree());
        return archive.boxes - 1;
    }

    public int moveBox(int box, int shelf, int place)
            throws IllegalStateException, IndexOutOfBoundsException, IllegalArgumentException {
        needBox(box);
        needPlace(shelf, place);
        int newMark = archive.markNumber(shelf, place);
        if (archive.destroyed(box) || archive.boxWithMark(newMark) != NONE) {
            throw new IllegalArgumentException("the box is destroyed, or the place is not free");
        }
        int oldMark = archive.mark[box];
        history.remember(archive);
        archive.mark[box] = newMark;
        return oldMark;
    }

    public int seal(int box, int lastYear)
            throws IllegalStateException, IndexOutOfBoundsException, IllegalArgumentException {
        needBox(box);
        needRange(lastYear, archive.year, LAST_SEAL_YEAR);
        if (archive.destroyed(box)) {
            throw new IllegalArgumentException("the box is destroyed");
        }
        int earlier = archive.sealEnd[box];
        history.remember(archive);
        archive.sealEnd[box] = lastYear;
        return earlier;
    }

    public boolean request(int reader, int box)
            throws IllegalStateException, IndexOutOfBoundsException, IllegalArgumentException {
        needReader(reader);
        needBox(box);
        if (archive.obstacleToRequest(reader, box) != Archive.NO_OBSTACLE) {
            throw new IllegalArgumentException("there is an obstacle to the request");
        }
        history.remember(archive);
        archive.lendOrQueue(reader, box);
        return archive.holder[box] == reader;
    }

    public int giveBack(int box) throws IllegalStateException, IndexOutOfBoundsException, IllegalArgumentException {
        needBox(box);
        if (!archive.lent(box)) {
            throw new IllegalArgumentException("the box is not lent");
        }
        history.remember(archive);
        archive.takeBack(box);
        return archive.holder[box];
    }

    public int makeList() throws IllegalStateException {
        needArchive();
        history.remember(archive);
        archive.listDueBoxes();
        return archive.listed;
    }

    public int strike(int box, int years)
            throws IllegalStateException, IndexOutOfBoundsException, IllegalArgumentException {
        needBox(box);
        needRange(years, 1, MAX_YEARS_OF_STRIKE);
        if (archive.positionOf(box) == NONE) {
            throw new IllegalArgumentException("the box is not on the list");
        }
        history.remember(archive);
        archive.postpone(box, years);
        return archive.due(box);
    }

    public int approveList() throws IllegalStateException {
        needArchive();
        history.remember(archive);
        return archive.destroyListed();
    }

    public int undo() throws IllegalStateException {
        if (history.count == 0) {
            throw new IllegalStateException("there is no change to undo");
        }
        history.takeBack(archive);
        return history.count;
    }

    public int undoable() {
        return history.count;
    }

    public int save(int slot) throws IllegalStateException, IndexOutOfBoundsException {
        needArchive();
        needSlot(slot);
        slots.states[slot].copyFrom(archive);
        slots.used[slot] = true;
        return archive.year;
    }

    public int restore(int slot) throws IndexOutOfBoundsException, IllegalStateException {
        needSlot(slot);
        if (!slots.used[slot]) {
            throw new IllegalStateException("no state is saved in the slot");
        }
        archive.copyFrom(slots.states[slot]);
        history.forget();
        return archive.year;
    }

    // ---- what the calls above share

    private void needArchive() {
        if (!loaded) {
            throw new IllegalStateException("no text has been loaded");
        }
    }

    private void needClass(int recordClass) {
        needArchive();
        if (recordClass < 0 || recordClass >= archive.classes.count) {
            throw new IndexOutOfBoundsException("no such record class");
        }
    }

    private void needBox(int box) {
        needArchive();
        if (box < 0 || box >= archive.boxes) {
            throw new IndexOutOfBoundsException("no such box");
        }
    }

    private void needReader(int reader) {
        needArchive();
        if (reader < 0 || reader >= archive.readers.count) {
            throw new IndexOutOfBoundsException("no such reader");
        }
    }

    private void needPlace(int shelf, int place) {
        if (shelf < 0 || shelf >= archive.shelves || place < 0 || place >= archive.places) {
            throw new IndexOutOfBoundsException("no such shelf or place");
        }
    }

    private static void needSlot(int slot) {
        if (slot < 0 || slot >= SLOTS) {
            throw new IndexOutOfBoundsException("no such slot");
        }
    }

    private static void needRange(int number, int least, int most) {
        if (number < least || number > most) {
            throw new IllegalArgumentException("a number is out of range");
        }
    }

    private void writeName(long name) {
        for (int index = 0; index < MAX_NAME; index++) {
            int letter = letterAt(name, index);
            if (letter != NONE) {
                written.append((char) letter);
            }
        }
    }

    // A name is held in one long, a byte for each letter from the lowest byte on, so that equal names are equal
    // numbers and no text has to be made for them.

    private static long withLetter(long name, int index, int letter) {
        return name | ((long) letter << (8 * index));
    }

    private static int letterAt(long name, int index) {
        if (index < 0 || index >= MAX_NAME) {
            return NONE;
        }
        int letter = (int) (name >>> (8 * index)) & 255;
        return letter == 0 ? NONE : letter;
    }

    private static boolean contains(long[] names, int count, long name) {
        for (int i = 0; i < count; i++) {
            if (names[i] == name) {
                return true;
            }
        }
        return false;
    }

    /** The record classes of an archive; the row of a class is its number. */
    private static final class RecordClasses {
        final long[] names = new long[MAX_CLASSES];
        final int[] periods = new int[MAX_CLASSES];
        final int[] closedPeriods = new int[MAX_CLASSES];
        final boolean[] permanent = new boolean[MAX_CLASSES];
        int count;

        void add(long name, int years, int closedYears, boolean forever) {
            if (count < MAX_CLASSES) {
                names[count] = name;
                periods[count] = years;
                closedPeriods[count] = closedYears;
                permanent[count] = forever;
                count++;
            }
        }

        void copyFrom(RecordClasses other) {
            System.arraycopy(other.names, 0, names, 0, MAX_CLASSES);
            System.arraycopy(other.periods, 0, periods, 0, MAX_CLASSES);
            System.arraycopy(other.closedPeriods, 0, closedPeriods, 0, MAX_CLASSES);
            for (int i = 0; i < MAX_CLASSES; i++) {
                permanent[i] = other.permanent[i];
            }
            count = other.count;
        }
    }

    /** The readers of an archive; the row of a reader is the reader's number. */
    private static final class Readers {
        final long[] names = new long[MAX_READERS];
        final int[] limits = new int[MAX_READERS];
        int count;

        void add(long name, int limit) {
            if (count < MAX_READERS) {
                names[count] = name;
                limits[count] = limit;
                count++;
            }
        }

        void copyFrom(Readers other) {
            System.arraycopy(other.names, 0, names, 0, MAX_READERS);
            System.arraycopy(other.limits, 0, limits, 0, MAX_READERS);
            count = other.count;
        }
    }

    /** One state of an archive; the row of a box is its number. Its calls get numbers that exist. */
    private static final class Archive {
        static final int NO_OBSTACLE = 0;

        static final int DESTROYED = 1;
        static final int PERMANENT = 2;
        static final int NOT_DUE = 3;
        static final int SEALED = 4;
        static final int LENT = 5;

        static final int REQUEST_DESTROYED = 1;
        static final int REQUEST_SEALED = 2;
        static final int REQUEST_CLOSED = 3;
        static final int REQUEST_TWICE = 4;
        static final int REQUEST_QUEUE_FULL = 5;

        static final int LOAN_YEARS = 2;

        final RecordClasses classes = new RecordClasses();
        final Readers readers = new Readers();
        final int[] classOfBox = new int[MAX_BOXES];
        final int[] closing = new int[MAX_BOXES];
        final int[] postponed = new int[MAX_BOXES];
        /** NONE if the box is destroyed. */
        final int[] mark = new int[MAX_BOXES];
        /** 0 if the box has no seal. */
        final int[] sealEnd = new int[MAX_BOXES];
        /** NONE if the box is not lent; so is lentIn. */
        final int[] holder = new int[MAX_BOXES];
        final int[] lentIn = new int[MAX_BOXES];
        final int[] waiting = new int[MAX_BOXES];
        /** MAX_WAITING entries for each box, the first reader first. */
        final int[] queue = new int[MAX_BOXES * MAX_WAITING];
        final int[] list = new int[MAX_BOXES];
        int listed;
        int boxes;
        int year;
        int shelves;
        int places;

        void begin(int firstYear, int shelfNumber, int placeNumber) {
            year = firstYear;
            shelves = shelfNumber;
            places = placeNumber;
            boxes = 0;
            listed = 0;
            classes.count = 0;
            readers.count = 0;
        }

        void copyFrom(Archive other) {
            classes.copyFrom(other.classes);
            readers.copyFrom(other.readers);
            System.arraycopy(other.classOfBox, 0, classOfBox, 0, MAX_BOXES);
            System.arraycopy(other.closing, 0, closing, 0, MAX_BOXES);
            System.arraycopy(other.postponed, 0, postponed, 0, MAX_BOXES);
            System.arraycopy(other.mark, 0, mark, 0, MAX_BOXES);
            System.arraycopy(other.sealEnd, 0, sealEnd, 0, MAX_BOXES);
            System.arraycopy(other.holder, 0, holder, 0, MAX_BOXES);
            System.arraycopy(other.lentIn, 0, lentIn, 0, MAX_BOXES);
            System.arraycopy(other.waiting, 0, waiting, 0, MAX_BOXES);
            System.arraycopy(other.queue, 0, queue, 0, MAX_BOXES * MAX_WAITING);
            System.arraycopy(other.list, 0, list, 0, MAX_BOXES);
            listed = other.listed;
            boxes = other.boxes;
            year = other.year;
            shelves = other.shelves;
            places = other.places;
        }

        // ---- shelf marks

        int countPlaces() {
            return shelves * places;
        }

        int markNumber(int shelf, int place) {
            return shelf * places + place;
        }

        int shelfOfMark(int number) {
            return number < 0 || places <= 0 ? NONE : number / places;
        }

        int placeOfMark(int number) {
            return number < 0 || places <= 0 ? NONE : number % places;
        }

        int boxWithMark(int number) {
            for (int box = 0; box < boxes; box++) {
                if (mark[box] == number) {
                    return box;
                }
            }
            return NONE;
        }

        int firstFree() {
            for (int number = 0; number < countPlaces(); number++) {
                if (boxWithMark(number) == NONE) {
                    return number;
                }
            }
            return NONE;
        }

        int countFree() {
            int free = 0;
            for (int number = 0; number < countPlaces(); number++) {
                if (boxWithMark(number) == NONE) {
                    free++;
                }
            }
            return free;
        }

        boolean takesBox() {
            return boxes < MAX_BOXES && firstFree() != NONE;
        }

        void putNewBox(int recordClass, int closingYear, int number) {
            if (boxes < MAX_BOXES) {
                classOfBox[boxes] = recordClass;
                closing[boxes] = closingYear;
                postponed[boxes] = 0;
                mark[boxes] = number;
                sealEnd[boxes] = 0;
                waiting[boxes] = 0;
                endLoan(boxes);
                boxes++;
            }
        }

        char signOfMark(int number) {
            int box = boxWithMark(number);
            if (box == NONE) {
                return '.';
            }
            if (lent(box)) {
                return 'l';
            }
            if (sealed(box)) {
                return 's';
            }
            if (permanent(box)) {
                return 'p';
            }
            return obstacleToDestroy(box) == NO_OBSTACLE ? 'd' : 'b';
        }

        // ---- boxes

        boolean destroyed(int box) {
            return mark[box] == NONE;
        }

        boolean lent(int box) {
            return holder[box] != NONE;
        }

        boolean sealed(int box) {
            return sealEnd[box] >= year;
        }

        boolean permanent(int box) {
            return classes.permanent[classOfBox[box]];
        }

        boolean open(int box) {
            return year > closing[box] + classes.closedPeriods[classOfBox[box]];
        }

        int due(int box) {
            return closing[box] + classes.periods[classOfBox[box]] + postponed[box] + 1;
        }

        int countKept() {
            int kept = 0;
            for (int box = 0; box < boxes; box++) {
                if (!destroyed(box)) {
                    kept++;
                }
            }
            return kept;
        }

        int countLent() {
            int count = 0;
            for (int box = 0; box < boxes; box++) {
                if (lent(box)) {
                    count++;
                }
            }
            return count;
        }

        int sumOfAges() {
            int sum = 0;
            for (int box = 0; box < boxes; box++) {
                if (!destroyed(box)) {
                    sum += year - closing[box];
                }
            }
            return sum;
        }

        int firstDue() {
            int first = NONE;
            for (int box = 0; box < boxes; box++) {
                if (!destroyed(box) && !permanent(box) && (first == NONE || due(box) < due(first))) {
                    first = box;
                }
            }
            return first;
        }

        // ---- destruction

        int obstacleToDestroy(int box) {
            if (destroyed(box)) {
                return DESTROYED;
            }
            if (permanent(box)) {
                return PERMANENT;
            }
            if (year < due(box)) {
                return NOT_DUE;
            }
            if (sealed(box)) {
                return SEALED;
            }
            return lent(box) ? LENT : NO_OBSTACLE;
        }

        int countDestroyable() {
            int count = 0;
            for (int box = 0; box < boxes; box++) {
                if (obstacleToDestroy(box) == NO_OBSTACLE) {
                    count++;
                }
            }
            return count;
        }

        void listDueBoxes() {
            listed = 0;
            for (int box = 0; box < boxes; box++) {
                int obstacle = obstacleToDestroy(box);
                if (obstacle == NO_OBSTACLE || obstacle == LENT) {
                    insertIntoList(box);
                }
            }
        }

        /** Boxes come in the order of their numbers, so on a tie the new one stays behind. */
        private void insertIntoList(int box) {
            if (listed >= MAX_BOXES) {
                return;
            }
            int position = listed;
            while (position > 0 && due(list[position - 1]) > due(box)) {
                list[position] = list[position - 1];
                position--;
            }
            list[position] = box;
            listed++;
        }

        int positionOf(int box) {
            for (int position = 0; position < listed; position++) {
                if (list[position] == box) {
                    return position;
                }
            }
            return NONE;
        }

        void postpone(int box, int years) {
            int position = positionOf(box);
            if (position != NONE) {
                listed--;
                System.arraycopy(list, position + 1, list, position, listed - position);
                postponed[box] += years;
            }
        }

        int destroyListed() {
            int count = 0;
            for (int position = 0; position < listed; position++) {
                int box = list[position];
                if (obstacleToDestroy(box) == NO_OBSTACLE) {
                    mark[box] = NONE;
                    sealEnd[box] = 0;
                    waiting[box] = 0;
                    count++;
                }
            }
            listed = 0;
            return count;
        }

        // ---- readers and loans

        int countHeldBy(int reader) {
            int count = 0;
            for (int box = 0; box < boxes; box++) {
                if (holder[box] == reader) {
                    count++;
                }
            }
            return count;
        }

        private boolean waitsFor(int reader, int box) {
            for (int i = 0; i < waiting[box]; i++) {
                if (queue[box * MAX_WAITING + i] == reader) {
                    return true;
                }
            }
            return false;
        }

        int obstacleToRequest(int reader, int box) {
            if (destroyed(box)) {
                return REQUEST_DESTROYED;
            }
            if (sealed(box)) {
                return REQUEST_SEALED;
            }
            if (!open(box)) {
                return REQUEST_CLOSED;
            }
            if (holder[box] == reader || waitsFor(reader, box)) {
                return REQUEST_TWICE;
            }
            return waiting[box] >= MAX_WAITING ? REQUEST_QUEUE_FULL : NO_OBSTACLE;
        }

        void lendOrQueue(int reader, int box) {
            if (!lent(box) && countHeldBy(reader) < readers.limits[reader]) {
                lend(reader, box);
            } else if (waiting[box] < MAX_WAITING) {
                queue[box * MAX_WAITING + waiting[box]] = reader;
                waiting[box]++;
            }
        }

        private void lend(int reader, int box) {
            holder[box] = reader;
            lentIn[box] = year;
        }

        private void endLoan(int box) {
            holder[box] = NONE;
            lentIn[box] = NONE;
        }

        void takeBack(int box) {
            endLoan(box);
            serve(box);
        }

        private void serve(int box) {
            if (destroyed(box) || sealed(box) || lent(box)) {
                return;
            }
            for (int i = 0; i < waiting[box]; i++) {
                int reader = queue[box * MAX_WAITING + i];
                if (countHeldBy(reader) < readers.limits[reader]) {
                    leaveQueue(box, i);
                    lend(reader, box);
                    return;
                }
            }
        }

        private void leaveQueue(int box, int index) {
            int first = box * MAX_WAITING;
            waiting[box]--;
            for (int i = index; i < waiting[box]; i++) {
                queue[first + i] = queue[first + i + 1];
            }
        }

        // ---- years

        void pass(int years) {
            for (int passed = 0; passed < years; passed++) {
                year++;
                endOldLoans();
                for (int box = 0; box < boxes; box++) {
                    serve(box);
                }
            }
        }

        private void endOldLoans() {
            for (int box = 0; box < boxes; box++) {
                if (lent(box) && year - lentIn[box] >= LOAN_YEARS) {
                    endLoan(box);
                }
            }
        }

        void passAndApprove() {
            pass(1);
            listDueBoxes();
            destroyListed();
        }

        // ---- invariants

        int countFaults() {
            int faults = Math.abs(countPlaces() - (countFree() + countKept()));
            for (int box = 0; box < boxes; box++) {
                if (!destroyed(box) && boxWithMark(mark[box]) != box) {
                    faults++;
                }
                if (destroyed(box) && (lent(box) || sealed(box))) {
                    faults++;
                }
            }
            for (int reader = 0; reader < readers.count; reader++) {
                if (countHeldBy(reader) > readers.limits[reader]) {
                    faults++;
                }
            }
            return faults;
        }
    }

    /** The states before the most recent changes, in a ring. */
    private static final class History {
        final Archive[] states = new Archive[MAX_UNDO];
        int next;
        int count;

        History() {
            for (int i = 0; i < MAX_UNDO; i++) {
                states[i] = new Archive();
            }
        }

        void remember(Archive archive) {
            states[next].copyFrom(archive);
            next = (next + 1) % MAX_UNDO;
            count = Math.min(count + 1, MAX_UNDO);
        }

        void takeBack(Archive archive) {
            next = (next + MAX_UNDO - 1) % MAX_UNDO;
            archive.copyFrom(states[next]);
            count--;
        }

        void forget() {
            count = 0;
        }
    }

    /** The saved states. */
    private static final class Slots {
        final Archive[] states = new Archive[SLOTS];
        final boolean[] used = new boolean[SLOTS];

        Slots() {
            for (int i = 0; i < SLOTS; i++) {
                states[i] = new Archive();
            }
        }

        void forget() {
            for (int i = 0; i < SLOTS; i++) {
                used[i] = false;
            }
        }
    }

    /** The input buffer, and the tokens that its first bytes are cut into. */
    private static final class Input {
        static final int END = 0;
        static final int WORD = 1;
        static final int NUMBER = 2;
        static final int SPACE = 3;
        static final int INVALID = 4;

        static final int MAX_LETTERS = 7;
        static final int MAX_DIGITS = 4;
        /** Each byte can be a token, and the end is one more. */
        static final int MAX_TOKENS = MAX_INPUT + 1;

        final byte[] bytes = new byte[MAX_INPUT];
        int held;
        /** For a semicolon or a bracket its byte. */
        final int[] kinds = new int[MAX_TOKENS];
        final int[] starts = new int[MAX_TOKENS];
        final int[] lengths = new int[MAX_TOKENS];
        int tokens;
        /** The token that was read last; NONE before the first one. */
        int current;

        void put(int fourBytes) {
            for (int shift = 24; shift >= 0 && held < MAX_INPUT; shift -= 8) {
                bytes[held] = (byte) (fourBytes >> shift);
                held++;
            }
        }

        /** All tokens are cut at once, since a repeat reads its own again and again. */
        void cut(int length) {
            tokens = 0;
            current = NONE;
            for (int at = 0; at < length; at++) {
                int kind = kindOf(bytes[at]);
                if (continuesToken(kind, at)) {
                    lengths[tokens - 1]++;
                } else if (kind != SPACE) {
                    addToken(kind, at);
                }
            }
            addToken(END, length);
        }

        private boolean continuesToken(int kind, int at) {
            if (tokens == 0 || kind != WORD && kind != NUMBER) {
                return false;
            }
            return kind == kinds[tokens - 1] && at == starts[tokens - 1] + lengths[tokens - 1];
        }

        private void addToken(int kind, int start) {
            if (tokens < MAX_TOKENS) {
                kinds[tokens] = kind;
                starts[tokens] = start;
                lengths[tokens] = 1;
                tokens++;
            }
        }

        private static int kindOf(byte b) {
            if (b >= 'a' && b <= 'z') {
                return WORD;
            }
            if (b >= '0' && b <= '9') {
                return NUMBER;
            }
            if (b == ';' || b == '(' || b == ')') {
                return b;
            }
            return b == ' ' ? SPACE : INVALID;
        }

        /** The end stays the current token however often it is read. */
        void next() {
            if (current < tokens - 1) {
                current++;
            }
        }

        int kind() {
            int kind = kinds[current];
            boolean tooLong = kind == WORD && lengths[current] > MAX_LETTERS
                    || kind == NUMBER && lengths[current] > MAX_DIGITS;
            return tooLong ? INVALID : kind;
        }

        boolean isWord(String word) {
            if (kinds[current] != WORD || lengths[current] != word.length()) {
                return false;
            }
            for (int i = 0; i < word.length(); i++) {
                if (bytes[starts[current] + i] != word.charAt(i)) {
                    return false;
                }
            }
            return true;
        }

        int value() {
            int value = 0;
            for (int i = 0; i < lengths[current]; i++) {
                value = value * 10 + bytes[starts[current] + i] - '0';
            }
            return value;
        }

        long name() {
            long name = 0;
            for (int i = 0; i < lengths[current]; i++) {
                name = withLetter(name, i, bytes[starts[current] + i]);
            }
            return name;
        }
    }

    /** Reads a text into a draft. Every error is found at the token that was read last. */
    private static final class Parser {
        static final int SYNTAX = 1;
        static final int RANGE = 2;
        static final int NOT_FITTING = 3;
        static final int TOO_MANY = 4;

        static final int FIRST_YEAR = 1900;
        static final int LAST_YEAR = 2500;
        static final int MAX_PERIOD = 50;
        static final int MAX_LIMIT = 4;
        static final int MAX_TIMES = 9;
        static final int MAX_DEPTH = 2;
        static final int MAX_YEARS_OF_TEXT = 500;

        final Input input = new Input();
        final Archive draft = new Archive();
        int error;
        int errorAt = NONE;
        private int yearsOfText;

        /** Answers whether the text is valid; if it is not, error and errorAt tell why. */
        boolean parse(int length) {
            error = 0;
            errorAt = NONE;
            yearsOfText = 0;
            input.cut(length);
            try {
                readHead();
                if (input.kind() == ';') {
                    readLines(0);
                }
                check(input.kind() == Input.END, SYNTAX);
                return true;
            } catch (IllegalArgumentException wrongToken) {
                return false;
            }
        }

        private void check(boolean valid, int code) {
            if (!valid) {
                error = code;
                errorAt = input.starts[input.current];
                throw new IllegalArgumentException("the token is not valid");
            }
        }

        // ---- the grammar

        private void readHead() {
            input.next();
            check(input.isWord("archive"), SYNTAX);
            int year = readNumber(FIRST_YEAR, LAST_YEAR);
            int shelves = readNumber(1, MAX_SHELVES);
            int places = readNumber(1, MAX_PLACES);
            draft.begin(year, shelves, places);
            input.next();
        }

        /** Stops at the first token behind a line that is no semicolon; no text has more lines than bytes. */
        private void readLines(int depth) {
            for (int lines = 0; lines < MAX_INPUT; lines++) {
                input.next();
                readLine(depth);
                input.next();
                if (input.kind() != ';') {
                    return;
                }
            }
        }

        private void readLine(int depth) {
            if (input.isWord("class")) {
                readClass();
            } else if (input.isWord("box")) {
                readBox();
            } else if (input.isWord("reader")) {
                readReader();
            } else if (input.isWord("seal")) {
                readSeal();
            } else if (input.isWord("request")) {
                readRequest();
            } else if (input.isWord("back")) {
                readBack();
            } else if (input.isWord("move")) {
                readMove();
            } else if (input.isWord("list")) {
                draft.listDueBoxes();
            } else if (input.isWord("strike")) {
                readStrike();
            } else if (input.isWord("approve")) {
                draft.destroyListed();
            } else if (input.isWord("pass")) {
                readPass();
            } else {
                check(input.isWord("repeat"), SYNTAX);
                readRepeat(depth);
            }
        }

        private void readClass() {
            check(draft.classes.count < MAX_CLASSES, TOO_MANY);
            long name = readName(draft.classes.names, draft.classes.count);
            int years = readNumber(1, MAX_PERIOD);
            int closedYears = readNumber(0, MAX_PERIOD);
            draft.classes.add(name, years, closedYears, readOptional("forever"));
        }

        private void readBox() {
            check(draft.takesBox(), TOO_MANY);
            int recordClass = readNumber(0, draft.classes.count - 1);
            int closing = readNumber(FIRST_CLOSING_YEAR, draft.year);
            int mark = readOptional("at") ? readFreeMark() : draft.firstFree();
            draft.putNewBox(recordClass, closing, mark);
        }

        private void readReader() {
            check(draft.readers.count < MAX_READERS, TOO_MANY);
            long name = readName(draft.readers.names, draft.readers.count);
            draft.readers.add(name, readNumber(1, MAX_LIMIT));
        }

        private void readSeal() {
            int box = readKeptBox();
            draft.sealEnd[box] = readNumber(draft.year, LAST_SEAL_YEAR);
        }

        private void readRequest() {
            int reader = readNumber(0, draft.readers.count - 1);
            int box = readNumber(0, draft.boxes - 1);
            check(draft.obstacleToRequest(reader, box) == Archive.NO_OBSTACLE, NOT_FITTING);
            draft.lendOrQueue(reader, box);
        }

        private void readBack() {
            int box = readNumber(0, draft.boxes - 1);
            check(draft.lent(box), NOT_FITTING);
            draft.takeBack(box);
        }

        private void readMove() {
            int box = readKeptBox();
            draft.mark[box] = readFreeMark();
        }

        private void readStrike() {
            int box = readNumber(0, draft.boxes - 1);
            check(draft.positionOf(box) != NONE, NOT_FITTING);
            draft.postpone(box, readNumber(1, MAX_YEARS_OF_STRIKE));
        }

        private void readPass() {
            int years = readNumber(1, MAX_YEARS_OF_PASS);
            check(yearsOfText + years <= MAX_YEARS_OF_TEXT, TOO_MANY);
            yearsOfText += years;
            draft.pass(years);
        }

        /** The depth, which is the number of repeats around this one, keeps the recursion low. */
        private void readRepeat(int depth) {
            check(depth < MAX_DEPTH, TOO_MANY);
            int times = readNumber(1, MAX_TIMES);
            input.next();
            check(input.kind() == '(', SYNTAX);
            int bracket = input.current;
            for (int time = 0; time < times; time++) {
                input.current = bracket;
                readLines(depth + 1);
                check(input.kind() == ')', SYNTAX);
            }
        }

        // ---- the items of a line

        private int readNumber(int least, int most) {
            input.next();
            check(input.kind() == Input.NUMBER, SYNTAX);
            int number = input.value();
            check(number >= least && number <= most, RANGE);
            return number;
        }

        private long readName(long[] others, int count) {
            input.next();
            check(input.kind() == Input.WORD, SYNTAX);
            check(input.lengths[input.current] <= MAX_NAME, NOT_FITTING);
            long name = input.name();
            check(!contains(others, count, name), NOT_FITTING);
            return name;
        }

        /** Leaves the token to the next reader if it is another one. */
        private boolean readOptional(String word) {
            int before = input.current;
            input.next();
            boolean there = input.isWord(word);
            if (!there) {
                input.current = before;
            }
            return there;
        }

        private int readKeptBox() {
            int box = readNumber(0, draft.boxes - 1);
            check(!draft.destroyed(box), NOT_FITTING);
            return box;
        }

        private int readFreeMark() {
            int shelf = readNumber(0, draft.shelves - 1);
            int place = readNumber(0, draft.places - 1);
            int mark = draft.markNumber(shelf, place);
            check(draft.boxWithMark(mark) == NONE, NOT_FITTING);
            return mark;
        }
    }
}
