/** A file of records whose fields hold many values, with subvalues within values. */
public final class MultiValueFile {
    public static final int NO_SUCH = -1000001;
    public static final int BAD_VALUE = -1000002;
    public static final int BAD_TEXT = -1000003;
    public static final int TOO_MANY = -1000004;
    public static final int NOT_POSSIBLE = -1000005;
    public static final int LOCKED = -1000006;
    public static final int NONE = -1000007;

    private static final int RECORDS = 10;
    private static final int IDS = 100;
    private static final int FIELDS = 4;
    private static final int VALUES = 5;
    private static final int SUBVALUES = 4;
    private static final int FIELD_NUMBERS = VALUES * SUBVALUES;
    private static final int GREATEST_NUMBER = 999;
    private static final int USERS = 4;
    private static final int COLUMNS = 6;
    private static final int LISTS = 8;
    private static final int ALL_RECORDS = -1;
    private static final int WHOLE_VALUE = -1;
    private static final int PAST_STATES = 4;
    private static final int TEXT_LENGTH = 90;
    // Each number has four signs at most, and a sign behind it but for the last.
    private static final int PRINTED_LENGTH = FIELDS * FIELD_NUMBERS * 5;
    private static final int GREATEST_SELECTED = 1000000;

    private static final int KIND_SUBVALUES = 0;
    private static final int KIND_VALUE_COUNT = 1;
    private static final int KIND_SUM = 2;
    private static final int KIND_GREATEST = 3;
    private static final int KIND_PRODUCTS = 4;

    private static final int TEST_LESS = 0;
    private static final int TEST_EQUAL = 1;
    private static final int TEST_GREATER = 2;

    private static final int HOW_BOTH = 0;
    private static final int HOW_EITHER = 1;
    private static final int HOW_FIRST_ONLY = 2;

    private static final int WHAT_KIND = 0;
    private static final int WHAT_FIRST = 1;
    private static final int WHAT_SECOND = 2;

    private static final int PART_NUMBER = 0;
    private static final int PART_ID = 1;
    private static final int PART_PLACE = 2;

    private final State now;
    // The latest state stands at pastSize - 1; those from pastSize on are spare.
    private final State[] past;
    private int pastSize;
    private final Signs text;
    private final Signs printedText;
    private final TextReader reader;
    private final Sequence sequence;
    private final ExplodedList explodedList;

    public MultiValueFile() {
        now = new State();
        past = new State[PAST_STATES];
        for (int place = 0; place < PAST_STATES; place++) {
            past[place] = new State();
        }
        pastSize = 0;
        text = new Signs(TEXT_LENGTH);
        printedText = new Signs(PRINTED_LENGTH);
        reader = new TextReader();
        sequence = new Sequence();
        explodedList = new ExplodedList();
    }

    // ---- records and locks

    public int create(int id) {
        if (!isBelow(id, IDS)) {
            return BAD_VALUE;
        }
        if (now.find(id) != null) {
            return NOT_POSSIBLE;
        }
        if (now.recordCount >= RECORDS) {
            return TOO_MANY;
        }
        remember();
        now.addRecord(id);
        return now.recordCount;
    }

    public int delete(int user, int id) {
        FileRecord rec = now.find(id);
        if (!isBelow(user, USERS) || rec == null) {
            return NO_SUCH;
        }
        if (!rec.isOpenTo(user)) {
            return LOCKED;
        }
        remember();
        now.dropRecord(id);
        return now.recordCount;
    }

    public int lock(int user, int id) {
        FileRecord rec = now.find(id);
        if (!isBelow(user, USERS) || rec == null) {
            return NO_SUCH;
        }
        if (!rec.isOpenTo(user)) {
            return LOCKED;
        }
        remember();
        rec.lockedBy = user;
        return now.lockCount(user);
    }

    public int unlock(int user, int id) {
        FileRecord rec = now.find(id);
        if (!isBelow(user, USERS) || rec == null) {
            return NO_SUCH;
        }
        if (!rec.isOpenTo(user)) {
            return LOCKED;
        }
        if (rec.lockedBy == NONE) {
            return NOT_POSSIBLE;
        }
        remember();
        rec.lockedBy = NONE;
        return now.lockCount(user);
    }

    // ---- changes of records

    public int insert(int user, int id, int field, int value, int sub, int number) {
        FileRecord rec = now.find(id);
        if (!isBelow(user, USERS) || rec == null || !rec.hasRoomPlace(field, value, sub)) {
            return NO_SUCH;
        }
        if (!isNumber(number)) {
            return BAD_VALUE;
        }
        if (!rec.isOpenTo(user)) {
            return LOCKED;
        }
        if (sub == WHOLE_VALUE) {
            return insertValue(rec, field, value, number);
        }
        return insertSub(rec, field, value, sub, number);
    }

    private int insertValue(FileRecord rec, int field, int value, int number) {
        if (rec.valueCount(field) >= VALUES) {
            return TOO_MANY;
        }
        remember();
        rec.addValue(field, value, number);
        return rec.valueCount(field);
    }

    private int insertSub(FileRecord rec, int field, int value, int sub, int number) {
        if (rec.subCount(field, value) >= SUBVALUES) {
            return TOO_MANY;
        }
        remember();
        rec.addSub(field, value, sub, number);
        return rec.subCount(field, value);
    }

    public int change(int user, int id, int field, int value, int sub, int number) {
        FileRecord rec = now.find(id);
        if (!isBelow(user, USERS) || rec == null || !rec.hasSub(field, value, sub)) {
            return NO_SUCH;
        }
        if (!isNumber(number)) {
            return BAD_VALUE;
        }
        if (!rec.isOpenTo(user)) {
            return LOCKED;
        }
        int previous = rec.numberOf(field, value, sub);
        remember();
        rec.setNumber(field, value, sub, number);
        return previous;
    }

    public int remove(int user, int id, int field, int value, int sub) {
        FileRecord rec = now.find(id);
        if (!isBelow(user, USERS) || rec == null || !rec.hasPart(field, value, sub)) {
            return NO_SUCH;
        }
        if (!rec.isOpenTo(user)) {
            return LOCKED;
        }
        remember();
        if (sub == WHOLE_VALUE || rec.subCount(field, value) == 1) {
            rec.dropValue(field, value);
        } else {
            rec.dropSub(field, value, sub);
        }
        return rec.valueCount(field);
    }

    public int removeLine(int user, int id, int place) {
        FileRecord rec = now.find(id);
        if (!isBelow(user, USERS) || rec == null || place < 0 || place >= now.lineCount(rec)) {
            return NO_SUCH;
        }
        if (!rec.isOpenTo(user)) {
            return LOCKED;
        }
        remember();
        int removed = 0;
        for (int field = 0; field < FIELDS; field++) {
            if (now.isAssociated[field] && rec.hasValue(field, place)) {
                rec.dropValue(field, place);
                removed++;
            }
        }
        return removed;
    }

    public int load(int user, int id) {
        FileRecord rec = now.find(id);
        if (!isBelow(user, USERS) || rec == null) {
            return NO_SUCH;
        }
        if (reader.read(text) != NONE) {
            return BAD_TEXT;
        }
        if (!rec.isOpenTo(user)) {
            return LOCKED;
        }
        remember();
        rec.copyFields(reader.result);
        return rec.allSubCount();
    }

    // ---- dictionary and lists

    public int associate(int field, boolean isAssociated) {
        if (!isBelow(field, FIELDS)) {
            return NO_SUCH;
        }
        remember();
        now.isAssociated[field] = isAssociated;
        return now.associatedCount();
    }

    public int define(int column, int kind, int first, int second) {
        if (!isBelow(column, COLUMNS) || !isBelow(first, FIELDS) || !isBelow(second, FIELDS)) {
            return NO_SUCH;
        }
        if (kind < KIND_SUBVALUES || kind > KIND_PRODUCTS) {
            return BAD_VALUE;
        }
        int previous = now.kinds[column];
        remember();
        now.setColumn(column, kind, first, second);
        return previous;
    }

    public int select(int column, int test, int number, boolean isEvery, int list) {
        if (!isBelow(column, COLUMNS) || !isBelow(list, LISTS)) {
            return NO_SUCH;
        }
        if (test < TEST_LESS || test > TEST_GREATER
                || number < -GREATEST_SELECTED || number > GREATEST_SELECTED) {
            return BAD_VALUE;
        }
        remember();
        now.emptyList(list);
        for (int place = 0; place < now.recordCount; place++) {
            FileRecord rec = now.records[place];
            now.gather(rec, column, sequence);
            if (isSelected(test, number, isEvery)) {
                now.setListed(list, rec.id, true);
            }
        }
        return now.listedCount(list);
    }

    // Tests the numbers that stand in the sequence.
    private boolean isSelected(int test, int number, boolean isEvery) {
        int passed = 0;
        for (int place = 0; place < sequence.size; place++) {
            if (passes(sequence.at(place), test, number)) {
                passed++;
            }
        }
        return passed > 0 && (!isEvery || passed == sequence.size);
    }

    private static boolean passes(int given, int test, int number) {
        switch (test) {
            case TEST_LESS:
                return given < number;
            case TEST_EQUAL:
                return given == number;
            default:
                return given > number;
        }
    }

    public int combine(int how, int first, int second, int list) {
        if (!isBelow(first, LISTS) || !isBelow(second, LISTS) || !isBelow(list, LISTS)) {
            return NO_SUCH;
        }
        if (how < HOW_BOTH || how > HOW_FIRST_ONLY) {
            return BAD_VALUE;
        }
        remember();
        for (int id = 0; id < IDS; id++) {
            boolean isKept = isCombined(how, now.isListed(first, id), now.isListed(second, id));
            now.setListed(list, id, isKept);
        }
        return now.listedCount(list);
    }

    private static boolean isCombined(int how, boolean isInFirst, boolean isInSecond) {
        switch (how) {
            case HOW_BOTH:
                return isInFirst && isInSecond;
            case HOW_EITHER:
                return isInFirst || isInSecond;
            default:
                return isInFirst && !isInSecond;
        }
    }

    public int clearList(int list) {
        if (!isBelow(list, LISTS)) {
            return NO_SUCH;
        }
        int previous = now.listedCount(list);
        remember();
        now.emptyList(list);
        return previous;
    }

    // ---- text, printed text and history

    public int append(int character) {
        if (character < 32 || character > 126) {
            return BAD_VALUE;
        }
        if (text.length >= TEXT_LENGTH) {
            return TOO_MANY;
        }
        text.put(character);
        return text.length;
    }

    public int clearText() {
        int previous = text.length;
        text.length = 0;
        return previous;
    }

    public int fault() {
        return reader.read(text);
    }

    public int print(int id) {
        FileRecord rec = now.find(id);
        if (rec == null) {
            return NO_SUCH;
        }
        printedText.length = 0;
        for (int field = 0; field < FIELDS; field++) {
            if (field > 0) {
                printedText.put('^');
            }
            printField(rec, field);
        }
        return printedText.length;
    }

    private void printField(FileRecord rec, int field) {
        for (int value = 0; value < rec.valueCount(field); value++) {
            for (int sub = 0; sub < rec.subCount(field, value); sub++) {
                if (sub > 0) {
                    printedText.put('/');
                } else if (value > 0) {
                    printedText.put(']');
                }
                printedText.putNumber(rec.numberOf(field, value, sub));
            }
        }
    }

    public int printed(int index) {
        if (index < 0) {
            return BAD_VALUE;
        }
        if (index >= printedText.length) {
            return NONE;
        }
        return printedText.at(index);
    }

    public int undo() {
        if (pastSize <= 0) {
            return NONE;
        }
        pastSize--;
        now.copyState(past[pastSize]);
        return pastSize;
    }

    // Each action calls this when nothing can refuse it any more, and before it changes anything.
    private void remember() {
        if (pastSize >= PAST_STATES) {
            dropOldest();
        }
        past[pastSize].copyState(now);
        pastSize++;
    }

    // The oldest state's object becomes the spare one at the end.
    private void dropOldest() {
        State oldest = past[0];
        for (int place = 1; place < PAST_STATES; place++) {
            past[place - 1] = past[place];
        }
        past[PAST_STATES - 1] = oldest;
        pastSize = PAST_STATES - 1;
    }

    // ---- what there is; these methods change nothing

    public int records() {
        return now.recordCount;
    }

    public int recordAt(int place) {
        if (place < 0) {
            return BAD_VALUE;
        }
        if (place >= now.recordCount) {
            return NONE;
        }
        return now.records[place].id;
    }

    public int locker(int id) {
        FileRecord rec = now.find(id);
        if (rec == null) {
            return NO_SUCH;
        }
        return rec.lockedBy;
    }

    public int values(int id, int field) {
        FileRecord rec = now.find(id);
        if (rec == null || !isBelow(field, FIELDS)) {
            return NO_SUCH;
        }
        return rec.valueCount(field);
    }

    public int subvalues(int id, int field, int value) {
        FileRecord rec = now.find(id);
        if (rec == null || !rec.hasValue(field, value)) {
            return NO_SUCH;
        }
        return rec.subCount(field, value);
    }

    public int get(int id, int field, int value, int sub) {
        FileRecord rec = now.find(id);
        if (rec == null || !rec.hasSub(field, value, sub)) {
            return NO_SUCH;
        }
        return rec.numberOf(field, value, sub);
    }

    public int lines(int id) {
        FileRecord rec = now.find(id);
        if (rec == null) {
            return NO_SUCH;
        }
        return now.lineCount(rec);
    }

    public int locate(int id, int field, int number) {
        FileRecord rec = now.find(id);
        if (rec == null || !isBelow(field, FIELDS)) {
            return NO_SUCH;
        }
        if (!isNumber(number)) {
            return BAD_VALUE;
        }
        for (int value = 0; value < rec.valueCount(field); value++) {
            for (int sub = 0; sub < rec.subCount(field, value); sub++) {
                if (rec.numberOf(field, value, sub) == number) {
                    return 10 * value + sub;
                }
            }
        }
        return NONE;
    }

    public int column(int column, int what) {
        if (!isBelow(column, COLUMNS)) {
            return NO_SUCH;
        }
        switch (what) {
            case WHAT_KIND:
                return now.kinds[column];
            case WHAT_FIRST:
                return now.firsts[column];
            case WHAT_SECOND:
                return now.seconds[column];
            default:
                return BAD_VALUE;
        }
    }

    public int associated(int field) {
        if (!isBelow(field, FIELDS)) {
            return NO_SUCH;
        }
        return now.isAssociated[field] ? 1 : 0;
    }

    public int listSize(int list) {
        if (!isBelow(list, LISTS)) {
            return NO_SUCH;
        }
        return now.listedCount(list);
    }

    public int listAt(int list, int place) {
        if (!isBelow(list, LISTS)) {
            return NO_SUCH;
        }
        if (place < 0) {
            return BAD_VALUE;
        }
        int before = 0;
        for (int id = 0; id < IDS; id++) {
            if (now.isListed(list, id)) {
                if (before == place) {
                    return id;
                }
                before++;
            }
        }
        return NONE;
    }

    // ---- computed; these methods change nothing

    public int numbers(int id, int column) {
        FileRecord rec = now.find(id);
        if (rec == null || !isBelow(column, COLUMNS)) {
            return NO_SUCH;
        }
        now.gather(rec, column, sequence);
        return sequence.size;
    }

    public int numberAt(int id, int column, int place) {
        FileRecord rec = now.find(id);
        if (rec == null || !isBelow(column, COLUMNS)) {
            return NO_SUCH;
        }
        if (place < 0) {
            return BAD_VALUE;
        }
        now.gather(rec, column, sequence);
        if (place >= sequence.size) {
            return NONE;
        }
        return sequence.at(place);
    }

    public int exploded(int column) {
        if (!isBelow(column, COLUMNS)) {
            return NO_SUCH;
        }
        return entryCount(column);
    }

    public int explodedAt(int column, boolean isDescending, int index, int part) {
        if (!isBelow(column, COLUMNS)) {
            return NO_SUCH;
        }
        if (index < 0 || part < PART_NUMBER || part > PART_PLACE) {
            return BAD_VALUE;
        }
        explode(column, isDescending);
        if (index >= explodedList.size) {
            return NONE;
        }
        switch (part) {
            case PART_NUMBER:
                return explodedList.numbers[index];
            case PART_ID:
                return explodedList.ids[index];
            default:
                return explodedList.places[index];
        }
    }

    public int total(int column, int list) {
        if (!isBelow(column, COLUMNS) || (list != ALL_RECORDS && !isBelow(list, LISTS))) {
            return NO_SUCH;
        }
        return sumOf(column, list);
    }

    public float mean(int column) {
        if (!isBelow(column, COLUMNS)) {
            return -2000000.0f;
        }
        int count = entryCount(column);
        if (count == 0) {
            return 0.0f;
        }
        return (float) sumOf(column, ALL_RECORDS) / (float) count;
    }

    public int repeated(int column) {
        if (!isBelow(column, COLUMNS)) {
            return NO_SUCH;
        }
        explode(column, false);
        int count = 0;
        int run = 1;
        for (int place = 1; place < explodedList.size; place++) {
            boolean isSame = explodedList.numbers[place] == explodedList.numbers[place - 1];
            run = isSame ? run + 1 : 1;
            if (run == 2) {
                count++;
            }
        }
        return count;
    }

    private int entryCount(int column) {
        int count = 0;
        for (int place = 0; place < now.recordCount; place++) {
            now.gather(now.records[place], column, sequence);
            count += sequence.size;
        }
        return count;
    }

    private int sumOf(int column, int list) {
        int sum = 0;
        for (int place = 0; place < now.recordCount; place++) {
            FileRecord rec = now.records[place];
            if (list == ALL_RECORDS || now.isListed(list, rec.id)) {
                now.gather(rec, column, sequence);
                sum += sequence.sum();
            }
        }
        return sum;
    }

    private void explode(int column, boolean isDescending) {
        explodedList.begin(isDescending);
        for (int place = 0; place < now.recordCount; place++) {
            FileRecord rec = now.records[place];
            now.gather(rec, column, sequence);
            for (int index = 0; index < sequence.size; index++) {
                explodedList.add(sequence.at(index), rec.id, index);
            }
        }
    }

    private static boolean isBelow(int argument, int limit) {
        return argument >= 0 && argument < limit;
    }

    private static boolean isNumber(int number) {
        return number >= -GREATEST_NUMBER && number <= GREATEST_NUMBER;
    }

    /** What an action changes and undo restores. */
    private static final class State {
        // The first recordCount are in the order of their ids; those behind them are spare.
        final FileRecord[] records;
        int recordCount;
        final boolean[] isAssociated;
        final int[] kinds;
        final int[] firsts;
        final int[] seconds;
        // A list is a row of IDS places; the place of an id tells whether it is in the list.
        private final boolean[] listed;

        State() {
            records = new FileRecord[RECORDS];
            for (int place = 0; place < RECORDS; place++) {
                records[place] = new FileRecord();
            }
            recordCount = 0;
            isAssociated = new boolean[FIELDS];
            isAssociated[1] = true;
            isAssociated[2] = true;
            kinds = new int[COLUMNS];
            firsts = new int[COLUMNS];
            seconds = new int[COLUMNS];
            for (int field = 0; field < FIELDS; field++) {
                setColumn(field, KIND_SUBVALUES, field, 0);
            }
            setColumn(4, KIND_VALUE_COUNT, 0, 0);
            setColumn(5, KIND_PRODUCTS, 1, 2);
            listed = new boolean[LISTS * IDS];
        }

        void copyState(State other) {
            recordCount = other.recordCount;
            for (int place = 0; place < recordCount; place++) {
                records[place].copyRecord(other.records[place]);
            }
            System.arraycopy(other.isAssociated, 0, isAssociated, 0, FIELDS);
            System.arraycopy(other.kinds, 0, kinds, 0, COLUMNS);
            System.arraycopy(other.firsts, 0, firsts, 0, COLUMNS);
            System.arraycopy(other.seconds, 0, seconds, 0, COLUMNS);
            System.arraycopy(other.listed, 0, listed, 0, LISTS * IDS);
        }

        /** The record with this id, or null. */
        FileRecord find(int id) {
            for (int place = 0; place < recordCount; place++) {
                if (records[place].id == id) {
                    return records[place];
                }
            }
            return null;
        }

        void addRecord(int id) {
            if (recordCount >= RECORDS) {
                return;
            }
            FileRecord spare = records[recordCount];
            spare.begin(id);
            int place = recordCount;
            for (; place > 0 && records[place - 1].id > id; place--) {
                records[place] = records[place - 1];
            }
            records[place] = spare;
            recordCount++;
        }

        // The dropped record's object becomes the first spare one.
        void dropRecord(int id) {
            for (int place = 0; place < recordCount; place++) {
                if (records[place].id == id) {
                    FileRecord spare = records[place];
                    for (int next = place + 1; next < recordCount; next++) {
                        records[next - 1] = records[next];
                    }
                    recordCount--;
                    records[recordCount] = spare;
                    return;
                }
            }
        }

        int lockCount(int user) {
            int count = 0;
            for (int place = 0; place < recordCount; place++) {
                if (records[place].lockedBy == user) {
                    count++;
                }
            }
            return count;
        }

        int associatedCount() {
            int count = 0;
            for (int field = 0; field < FIELDS; field++) {
                if (isAssociated[field]) {
                    count++;
                }
            }
            return count;
        }

        int lineCount(FileRecord rec) {
            int count = 0;
            for (int field = 0; field < FIELDS; field++) {
                if (isAssociated[field]) {
                    count = Math.max(count, rec.valueCount(field));
                }
            }
            return count;
        }

        void setColumn(int column, int kind, int first, int second) {
            kinds[column] = kind;
            firsts[column] = first;
            seconds[column] = second;
        }

        /** Puts the numbers that the column gives for the record into the sequence. */
        void gather(FileRecord rec, int column, Sequence into) {
            into.size = 0;
            switch (kinds[column]) {
                case KIND_SUBVALUES:
                    rec.giveSubs(firsts[column], into);
                    break;
                case KIND_VALUE_COUNT:
                    into.add(rec.valueCount(firsts[column]));
                    break;
                case KIND_SUM:
                    rec.giveSum(firsts[column], into);
                    break;
                case KIND_GREATEST:
                    rec.giveGreatest(firsts[column], into);
                    break;
                default:
                    rec.giveProducts(firsts[column], seconds[column], into);
                    break;
            }
        }

        boolean isListed(int list, int id) {
            return listed[list * IDS + id];
        }

        void setListed(int list, int id, boolean isIn) {
            listed[list * IDS + id] = isIn;
        }

        void emptyList(int list) {
            for (int id = 0; id < IDS; id++) {
                setListed(list, id, false);
            }
        }

        int listedCount(int list) {
            int count = 0;
            for (int id = 0; id < IDS; id++) {
                if (isListed(list, id)) {
                    count++;
                }
            }
            return count;
        }
    }

    /** A record; its lock and its fields lie in flat rows, so that a copy makes no objects. */
    private static final class FileRecord {
        int id;
        int lockedBy;
        private final int[] valueCounts;
        private final int[] subCounts;
        private final int[] subs;

        FileRecord() {
            id = 0;
            lockedBy = NONE;
            valueCounts = new int[FIELDS];
            subCounts = new int[FIELDS * VALUES];
            subs = new int[FIELDS * FIELD_NUMBERS];
        }

        void begin(int newId) {
            id = newId;
            lockedBy = NONE;
            emptyFields();
        }

        void emptyFields() {
            for (int field = 0; field < FIELDS; field++) {
                valueCounts[field] = 0;
            }
        }

        void copyRecord(FileRecord other) {
            id = other.id;
            lockedBy = other.lockedBy;
            copyFields(other);
        }

        void copyFields(FileRecord other) {
            System.arraycopy(other.valueCounts, 0, valueCounts, 0, FIELDS);
            System.arraycopy(other.subCounts, 0, subCounts, 0, FIELDS * VALUES);
            System.arraycopy(other.subs, 0, subs, 0, FIELDS * FIELD_NUMBERS);
        }

        boolean isOpenTo(int user) {
            return lockedBy == NONE || lockedBy == user;
        }

        boolean hasValue(int field, int value) {
            return isBelow(field, FIELDS) && isBelow(value, valueCounts[field]);
        }

        boolean hasSub(int field, int value, int sub) {
            return hasValue(field, value) && isBelow(sub, subCount(field, value));
        }

        /** Whether there is this subvalue, or this value if the whole value is meant. */
        boolean hasPart(int field, int value, int sub) {
            if (sub == WHOLE_VALUE) {
                return hasValue(field, value);
            }
            return hasSub(field, value, sub);
        }

        /** Whether a new value, or a new subvalue, can have this place. */
        boolean hasRoomPlace(int field, int value, int sub) {
            if (sub == WHOLE_VALUE) {
                return isBelow(field, FIELDS) && isBelow(value, valueCounts[field] + 1);
            }
            return hasValue(field, value) && isBelow(sub, subCount(field, value) + 1);
        }

        int valueCount(int field) {
            return valueCounts[field];
        }

        int subCount(int field, int value) {
            return subCounts[field * VALUES + value];
        }

        int allSubCount() {
            int count = 0;
            for (int field = 0; field < FIELDS; field++) {
                for (int value = 0; value < valueCounts[field]; value++) {
                    count += subCount(field, value);
                }
            }
            return count;
        }

        int numberOf(int field, int value, int sub) {
            return subs[field * FIELD_NUMBERS + value * SUBVALUES + sub];
        }

        void setNumber(int field, int value, int sub, int number) {
            subs[field * FIELD_NUMBERS + value * SUBVALUES + sub] = number;
        }

        void addValue(int field, int value, int number) {
            if (valueCounts[field] >= VALUES) {
                return;
            }
            for (int place = valueCounts[field]; place > value; place--) {
                moveValue(field, place - 1, place);
            }
            valueCounts[field]++;
            subCounts[field * VALUES + value] = 1;
            setNumber(field, value, 0, number);
        }

        void addSub(int field, int value, int sub, int number) {
            int count = subCount(field, value);
            if (count >= SUBVALUES) {
                return;
            }
            for (int place = count; place > sub; place--) {
                setNumber(field, value, place, numberOf(field, value, place - 1));
            }
            subCounts[field * VALUES + value] = count + 1;
            setNumber(field, value, sub, number);
        }

        void dropValue(int field, int value) {
            for (int place = value + 1; place < valueCounts[field]; place++) {
                moveValue(field, place, place - 1);
            }
            valueCounts[field]--;
        }

        void dropSub(int field, int value, int sub) {
            int count = subCount(field, value);
            for (int place = sub + 1; place < count; place++) {
                setNumber(field, value, place - 1, numberOf(field, value, place));
            }
            subCounts[field * VALUES + value] = count - 1;
        }

        private void moveValue(int field, int from, int to) {
            int old = field * VALUES + from;
            int moved = field * VALUES + to;
            subCounts[moved] = subCounts[old];
            System.arraycopy(subs, old * SUBVALUES, subs, moved * SUBVALUES, SUBVALUES);
        }

        void giveSubs(int field, Sequence into) {
            for (int value = 0; value < valueCounts[field]; value++) {
                for (int sub = 0; sub < subCount(field, value); sub++) {
                    into.add(numberOf(field, value, sub));
                }
            }
        }

        void giveSum(int field, Sequence into) {
            giveSubs(field, into);
            int sum = into.sum();
            into.size = 0;
            into.add(sum);
        }

        void giveGreatest(int field, Sequence into) {
            for (int value = 0; value < valueCounts[field]; value++) {
                int greatest = numberOf(field, value, 0);
                for (int sub = 1; sub < subCount(field, value); sub++) {
                    greatest = Math.max(greatest, numberOf(field, value, sub));
                }
                into.add(greatest);
            }
        }

        void giveProducts(int first, int second, Sequence into) {
            int places = Math.min(valueCounts[first], valueCounts[second]);
            for (int value = 0; value < places; value++) {
                into.add(numberOf(first, value, 0) * numberOf(second, value, 0));
            }
        }
    }

    /** The numbers that a column gives for a record. */
    private static final class Sequence {
        private final int[] row;
        int size;

        Sequence() {
            row = new int[FIELD_NUMBERS];
            size = 0;
        }

        void add(int number) {
            if (size < FIELD_NUMBERS) {
                row[size] = number;
                size++;
            }
        }

        int at(int place) {
            return isBelow(place, size) ? row[place] : 0;
        }

        int sum() {
            int sum = 0;
            for (int place = 0; place < size; place++) {
                sum += row[place];
            }
            return sum;
        }
    }

    /** The entries of a column for all records, in order. */
    private static final class ExplodedList {
        final int[] numbers;
        final int[] ids;
        final int[] places;
        int size;
        private boolean isDescending;

        ExplodedList() {
            numbers = new int[RECORDS * FIELD_NUMBERS];
            ids = new int[RECORDS * FIELD_NUMBERS];
            places = new int[RECORDS * FIELD_NUMBERS];
            size = 0;
            isDescending = false;
        }

        void begin(boolean shallDescend) {
            size = 0;
            isDescending = shallDescend;
        }

        // Entries come by ids and places, so a new one stands behind all that have its number.
        void add(int number, int id, int place) {
            if (size >= RECORDS * FIELD_NUMBERS) {
                return;
            }
            int index = size;
            for (; index > 0 && isBehind(numbers[index - 1], number); index--) {
                put(index, numbers[index - 1], ids[index - 1], places[index - 1]);
            }
            put(index, number, id, place);
            size++;
        }

        private boolean isBehind(int listedNumber, int number) {
            return isDescending ? listedNumber < number : listedNumber > number;
        }

        private void put(int index, int number, int id, int place) {
            numbers[index] = number;
            ids[index] = id;
            places[index] = place;
        }
    }

    /** A row of characters. */
    private static final class Signs {
        private final char[] row;
        int length;

        Signs(int most) {
            row = new char[most < 0 ? 0 : most];
            length = 0;
        }

        void put(int character) {
            if (length < row.length) {
                row[length] = (char) character;
                length++;
            }
        }

        void putNumber(int number) {
            int rest = Math.abs(number);
            if (number < 0) {
                put('-');
            }
            if (rest >= 100) {
                put('0' + rest / 100);
            }
            if (rest >= 10) {
                put('0' + rest / 10 % 10);
            }
            put('0' + rest % 10);
        }

        int at(int index) {
            return isBelow(index, length) ? row[index] : 0;
        }
    }

    /** Reads a text into a record of its own, as far as the text has no fault. */
    private static final class TextReader {
        private static final int FIELD_BEGINS = 0;
        private static final int NUMBER_BEGINS = 1;
        private static final int BEHIND_MINUS = 2;
        private static final int IN_NUMBER = 3;

        final FileRecord result;
        private int stage;
        private int field;
        private int number;
        private boolean isNegative;

        TextReader() {
            result = new FileRecord();
            stage = FIELD_BEGINS;
            field = 0;
            number = 0;
            isNegative = false;
        }

        /** The fault of the text, or NONE. */
        int read(Signs signs) {
            result.emptyFields();
            stage = FIELD_BEGINS;
            field = 0;
            for (int index = 0; index < signs.length; index++) {
                if (!takes(signs.at(index))) {
                    return index;
                }
            }
            return isComplete() ? NONE : signs.length;
        }

        private boolean isComplete() {
            return field == FIELDS - 1 && isNumberOver();
        }

        private boolean isNumberOver() {
            return stage == FIELD_BEGINS || stage == IN_NUMBER;
        }

        private boolean takes(int character) {
            if (character >= '0' && character <= '9') {
                return takesDigit(character - '0');
            }
            switch (character) {
                case '-':
                    return takesMinus();
                case '/':
                    return takesSlash();
                case ']':
                    return takesBracket();
                case '^':
                    return takesCaret();
                default:
                    return false;
            }
        }

        private boolean takesMinus() {
            if (stage != FIELD_BEGINS && stage != NUMBER_BEGINS) {
                return false;
            }
            beginNumber();
            isNegative = true;
            stage = BEHIND_MINUS;
            return true;
        }

        private boolean takesDigit(int digit) {
            if (stage == BEHIND_MINUS) {
                if (digit == 0) {
                    return false;
                }
            } else if (stage == IN_NUMBER) {
                // A leading zero stands alone, and a number has three digits at most.
                if (number == 0 || Math.abs(number) >= 100) {
                    return false;
                }
            } else {
                beginNumber();
            }
            number = number * 10 + (isNegative ? -digit : digit);
            stage = IN_NUMBER;
            result.setNumber(field, lastValue(), lastSub(), number);
            return true;
        }

        // A value's first number makes room for itself only here, as a field can be empty.
        private void beginNumber() {
            if (stage == FIELD_BEGINS) {
                result.addValue(field, 0, 0);
            }
            number = 0;
            isNegative = false;
        }

        private boolean takesSlash() {
            if (stage != IN_NUMBER || lastSub() >= SUBVALUES - 1) {
                return false;
            }
            result.addSub(field, lastValue(), lastSub() + 1, 0);
            stage = NUMBER_BEGINS;
            return true;
        }

        private boolean takesBracket() {
            if (stage != IN_NUMBER || lastValue() >= VALUES - 1) {
                return false;
            }
            result.addValue(field, lastValue() + 1, 0);
            stage = NUMBER_BEGINS;
            return true;
        }

        private boolean takesCaret() {
            if (!isNumberOver() || field >= FIELDS - 1) {
                return false;
            }
            field++;
            stage = FIELD_BEGINS;
            return true;
        }

        private int lastValue() {
            return result.valueCount(field) - 1;
        }

        private int lastSub() {
            return result.subCount(field, lastValue()) - 1;
        }
    }
}
