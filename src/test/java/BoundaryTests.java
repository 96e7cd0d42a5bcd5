/** For each sentence of the promises 1 to 40 that names a bound, a test of that sentence, called by its words. */
public final class BoundaryTests extends Checks {
    private static final int[] NO_USERS = {-1, 4, NONE, LOWEST, HIGHEST};
    private static final int[] NO_IDS = {-1, 100, NONE, LOWEST, HIGHEST};
    private static final int[] NO_RECORDS = {0, 4, 6, 99, -1, 100, NONE, LOWEST, HIGHEST};
    private static final int[] NO_FIELDS = {-1, 4, LOWEST, HIGHEST};
    private static final int[] NO_COLUMNS = {-1, 6, LOWEST, HIGHEST};
    private static final int[] NO_LISTS = {-1, 8, LOWEST, HIGHEST};
    private static final int[] NO_NUMBERS = {-1000, 1000, LOWEST, HIGHEST};
    private static final int[] NO_CHOICES = {-1, 3, LOWEST, HIGHEST};
    private static final int[] BELOW = {-1, -2, NONE, LOWEST};

    public static void main(String[] args) {
        newObject();
        create();
        delete();
        lock();
        unlock();
        insertPlaces();
        insertRefusals();
        change();
        remove();
        removeOnly();
        removeLine();
        load();
        loadRefusals();
        associate();
        define();
        selectTests();
        selectAnyAndEvery();
        selectRefusals();
        combine();
        clearList();
        append();
        clearText();
        fault();
        print();
        printed();
        undo();
        records();
        recordAt();
        locker();
        values();
        subvalues();
        get();
        lines();
        locate();
        column();
        associated();
        listSize();
        listAt();
        numbers();
        numberAt();
        exploded();
        explodedAt();
        total();
        mean();
        repeated();
        finish();
    }

    private static CountedFile fileOf(int count) {
        CountedFile x = new CountedFile();
        for (int id = 0; id < count; id++) {
            x.create(11 * id);
        }
        return x;
    }

    /** The record 5, free, and the record 9, locked by the user 2; each field with two values at the most. */
    private static CountedFile twoRecords() {
        CountedFile x = fileWith(5, "1/2]3^4^^5/6/7/8");
        add(x, 9, "1/2]3^4^^5/6/7/8");
        x.lock(2, 9);
        return x;
    }

    // ---- promise 1

    private static void newObject() {
        asks("MultiValueFile: Creates an empty file, with an empty text, an empty printed text and an empty history.");
        due("records", new CountedFile().records(), 0);
        due("recordAt(0)", new CountedFile().recordAt(0), NONE);
        due("clearText", new CountedFile().clearText(), 0);
        due("fault", new CountedFile().fault(), 0);
        due("printed(0)", new CountedFile().printed(0), NONE);
        due("undo", new CountedFile().undo(), NONE);
        CountedFile used = twoRecords();
        used.print(5);
        used.append('1');
        dueText("another new object", whole(new CountedFile()),
                " a0 a1 a1 a0 c000 c010 c020 c030 c100 c412 l() l() l() l() l() l() l() l()\nprinted \ntext  0 0\nhistory ");
    }

    // ---- promises 2 to 5

    private static void create() {
        asks("create: Creates a record with empty fields, which is not locked.");
        CountedFile x = new CountedFile();
        type(x, "1^2^3^4");
        x.create(7);
        allDue("values", x, (f, field) -> f.values(7, field), 0, 0, 1, 2, 3);
        due("locker", x.locker(7), NONE);
        CountedFile again = fileWith(7, "1/2/3/4]2]3]4]5^1^1^1");
        again.lock(3, 7);
        again.delete(3, 7);
        again.create(7);
        allDue("values of a record created again", again, (f, field) -> f.values(7, field), 0, 0, 1, 2, 3);
        due("locker of a record created again", again.locker(7), NONE);

        asks("create: id 0 to 99; BAD_VALUE if id is out of range");
        allDue("create", new CountedFile(), CountedFile::create, 1, 0, 1, 98, 99);
        allDue("create of the tenth", fileOf(9), CountedFile::create, 10, 1, 98, 99);
        allRefused("create", new CountedFile(), CountedFile::create, BAD_VALUE, NO_IDS);

        asks("create: Returns the number of records afterwards");
        for (int count = 0; count < 10; count++) {
            allDue("create in a file of " + count, fileOf(count), CountedFile::create, count + 1, 1, 50, 98);
        }

        asks("create: NOT_POSSIBLE if there is a record with this id");
        allRefused("create", fileOf(1), CountedFile::create, NOT_POSSIBLE, 0);
        allRefused("create in a full file", fileOf(10), CountedFile::create, NOT_POSSIBLE, 0, 11, 88, 99);

        asks("create: TOO_MANY if there are 10 records");
        allRefused("create", fileOf(10), CountedFile::create, TOO_MANY, 1, 10, 98);
    }

    private static void delete() {
        asks("delete: Saved lists keep its id.");
        CountedFile x = fileOf(3);
        for (int list = 0; list < 8; list++) {
            x.select(4, 1, 0, true, list);
        }
        x.delete(0, 11);
        for (int list = 0; list < 8; list++) {
            dueText("the list " + list, listOf(x, list), "0 11 22");
        }

        asks("delete: Returns the number of records afterwards");
        for (int count = 1; count <= 10; count++) {
            int last = 11 * (count - 1);
            allDue("delete in a file of " + count, fileOf(count), (f, id) -> f.delete(0, id), count - 1, 0, last / 22 * 11, last);
        }

        asks("delete: NO_SUCH if there is no such user or record");
        allRefused("delete", twoRecords(), (f, user) -> f.delete(user, 5), NO_SUCH, NO_USERS);
        allRefused("delete", twoRecords(), (f, id) -> f.delete(0, id), NO_SUCH, NO_RECORDS);
        allRefused("delete in an empty file", new CountedFile(), (f, id) -> f.delete(0, id), NO_SUCH, 0, 99);

        asks("delete: LOCKED if the user may not change it");
        allRefused("delete", twoRecords(), (f, user) -> f.delete(user, 9), LOCKED, 0, 1, 3);
        allDue("delete", twoRecords(), (f, user) -> f.delete(user, 9), 1, 2);
        allDue("delete of a free one", twoRecords(), (f, user) -> f.delete(user, 5), 1, 0, 1, 2, 3);
    }

    private static void lock() {
        asks("lock: Returns the number of records that the user has locked afterwards");
        CountedFile x = fileOf(10);
        for (int count = 1; count <= 9; count++) {
            due("lock of the next", x.lock(3, 11 * count), count);
            due("lock of the same", x.lock(3, 11 * count), count);
        }
        due("lock by another", x.lock(0, 0), 1);
        x.delete(3, 99);
        due("lock after a locked one is deleted", x.lock(3, 88), 8);

        asks("lock: NO_SUCH if there is no such user or record");
        allRefused("lock", twoRecords(), (f, user) -> f.lock(user, 5), NO_SUCH, NO_USERS);
        allRefused("lock", twoRecords(), (f, id) -> f.lock(0, id), NO_SUCH, NO_RECORDS);

        asks("lock: LOCKED if another user has locked it");
        allRefused("lock", twoRecords(), (f, user) -> f.lock(user, 9), LOCKED, 0, 1, 3);
        allDue("lock", twoRecords(), (f, user) -> f.lock(user, 9), 1, 2);
    }

    private static void unlock() {
        asks("unlock: Returns the number of records that the user has locked afterwards");
        CountedFile x = fileOf(10);
        for (int id = 0; id < 10; id++) {
            x.lock(1, 11 * id);
        }
        for (int left = 9; left >= 0; left--) {
            due("unlock", x.unlock(1, 11 * left), left);
            due("locker", x.locker(11 * left), NONE);
        }

        asks("unlock: NO_SUCH if there is no such user or record");
        allRefused("unlock", twoRecords(), (f, user) -> f.unlock(user, 9), NO_SUCH, NO_USERS);
        allRefused("unlock", twoRecords(), (f, id) -> f.unlock(2, id), NO_SUCH, NO_RECORDS);

        asks("unlock: LOCKED if another user has locked it");
        allRefused("unlock", twoRecords(), (f, user) -> f.unlock(user, 9), LOCKED, 0, 1, 3);
        allDue("unlock", twoRecords(), (f, user) -> f.unlock(user, 9), 0, 2);

        asks("unlock: NOT_POSSIBLE if it is not locked");
        allRefused("unlock", twoRecords(), (f, user) -> f.unlock(user, 5), NOT_POSSIBLE, 0, 1, 2, 3);
        CountedFile y = twoRecords();
        y.unlock(2, 9);
        allRefused("unlock for the second time", y, (f, user) -> f.unlock(user, 9), NOT_POSSIBLE, 0, 1, 2, 3);
    }

    // ---- promises 6 to 10

    private static void insertPlaces() {
        asks("insert: value: 0 to the number of values of the field: the place of the new value");
        String[] fields = {"", "1", "1]2/3", "1]2/3]4", "1]2/3]4]5/6/7/8"};
        String[][] want = {{"9"}, {"9]1", "1]9"}, {"9]1]2/3", "1]9]2/3", "1]2/3]9"},
            {"9]1]2/3]4", "1]9]2/3]4", "1]2/3]9]4", "1]2/3]4]9"},
            {"9]1]2/3]4]5/6/7/8", "1]9]2/3]4]5/6/7/8", "1]2/3]9]4]5/6/7/8", "1]2/3]4]9]5/6/7/8", "1]2/3]4]5/6/7/8]9"}};
        for (int count = 0; count <= 4; count++) {
            for (int field = 0; field < 4; field++) {
                int fi = field;
                for (int value = 0; value <= count; value++) {
                    CountedFile x = fileWith(5, "^".repeat(field) + fields[count] + "^".repeat(3 - field));
                    due("insert at " + value + " of " + count, x.insert(0, 5, field, value, -1, 9), count + 1);
                    dueText("the field", fieldOf(x, 5, field), want[count][value]);
                }
                CountedFile x = fileWith(5, "^".repeat(field) + fields[count] + "^".repeat(3 - field));
                allRefused("insert", x, (f, value) -> f.insert(0, 5, fi, value, -1, 9), NO_SUCH, -1, count + 1, LOWEST, HIGHEST);
            }
        }

        asks("insert: sub: otherwise 0 to the number of subvalues of the value: the place of the new subvalue");
        String[] values = {"1", "1/2", "1/2/3"};
        String[][] wanted = {{"9/1", "1/9"}, {"9/1/2", "1/9/2", "1/2/9"}, {"9/1/2/3", "1/9/2/3", "1/2/9/3", "1/2/3/9"}};
        for (int count = 1; count <= 3; count++) {
            CountedFile before = fileWith(5, "^^7]" + values[count - 1] + "]8/8^");
            for (int sub = 0; sub <= count; sub++) {
                CountedFile x = before.twin();
                due("insert at " + sub + " of " + count, x.insert(0, 5, 2, 1, sub, 9), count + 1);
                dueText("the field", fieldOf(x, 5, 2), "7]" + wanted[count - 1][sub] + "]8/8");
            }
            allRefused("insert", before, (f, sub) -> f.insert(0, 5, 2, 1, sub, 9), NO_SUCH, -2, count + 1, 5, LOWEST, HIGHEST);
        }

        asks("insert: Returns the number of values of the field afterwards if sub is -1, otherwise the number of subvalues of the value"
                + " afterwards");
        CountedFile grown = fileWith(5, "1]1]1^^^");
        due("insert of a fourth value", grown.insert(0, 5, 0, 3, -1, 9), 4);
        due("insert of a fifth value", grown.insert(0, 5, 0, 0, -1, 9), 5);
        due("insert of a second subvalue", grown.insert(0, 5, 0, 4, 1, 9), 2);
        due("insert of a third subvalue", grown.insert(0, 5, 0, 4, 0, 9), 3);
        due("insert of a fourth subvalue", grown.insert(0, 5, 0, 4, 3, 9), 4);
        due("insert of the first value", grown.insert(0, 5, 3, 0, -1, 9), 1);

        asks("insert: (with sub being 0 or more, there has to be a value with the place value)");
        CountedFile x = fileWith(5, "1]2^^1]2]3]4]5^");
        allRefused("insert behind the last value", x, (f, sub) -> f.insert(0, 5, 0, 2, sub, 9), NO_SUCH, 0, 1, HIGHEST);
        allRefused("insert in an empty field", x, (f, sub) -> f.insert(0, 5, 1, 0, sub, 9), NO_SUCH, 0, 1);
        allRefused("insert behind a full field", x, (f, sub) -> f.insert(0, 5, 2, 5, sub, 9), NO_SUCH, 0, 1);
        allDue("insert into the last value", x, (f, sub) -> f.insert(0, 5, 0, 1, sub, 9), 2, 0, 1);
    }

    private static void insertRefusals() {
        asks("insert: NO_SUCH if there is no such user, record, field or place");
        CountedFile x = twoRecords();
        allRefused("insert", x, (f, user) -> f.insert(user, 5, 0, 0, -1, 1), NO_SUCH, NO_USERS);
        allRefused("insert", x, (f, id) -> f.insert(0, id, 0, 0, -1, 1), NO_SUCH, NO_RECORDS);
        allRefused("insert", x, (f, field) -> f.insert(0, 5, field, 0, -1, 1), NO_SUCH, NO_FIELDS);
        allRefused("insert", x, (f, value) -> f.insert(0, 5, 0, value, -1, 1), NO_SUCH, -1, 3, LOWEST, HIGHEST);
        allRefused("insert", x, (f, sub) -> f.insert(0, 5, 0, 0, sub, 1), NO_SUCH, -2, 3, LOWEST, HIGHEST);

        asks("insert: number: -999 to 999; BAD_VALUE if number is out of range");
        allRefused("insert", x, (f, number) -> f.insert(0, 5, 0, 0, -1, number), BAD_VALUE, NO_NUMBERS);
        allRefused("insert of a subvalue", x, (f, number) -> f.insert(0, 5, 0, 0, 0, number), BAD_VALUE, NO_NUMBERS);
        allDue("insert", x, (f, number) -> f.insert(0, 5, 0, 0, -1, number), 3, -999, 999);
        allDue("insert of a subvalue", x, (f, number) -> f.insert(0, 5, 0, 0, 0, number), 3, -999, 999);

        asks("insert: LOCKED if the user may not change the record");
        allRefused("insert", x, (f, user) -> f.insert(user, 9, 0, 0, -1, 1), LOCKED, 0, 1, 3);
        allRefused("insert of a subvalue", x, (f, user) -> f.insert(user, 9, 0, 0, 0, 1), LOCKED, 0, 1, 3);
        allDue("insert", x, (f, user) -> f.insert(user, 9, 0, 0, -1, 1), 3, 2);

        asks("insert: TOO_MANY if the field has 5 values, or the value 4 subvalues, already");
        CountedFile full = fileWith(5, "^1]2]3]4]5/6/7/8^1]2]3]4^1/2/3/4]1/2/3");
        allRefused("insert of a value", full, (f, value) -> f.insert(0, 5, 1, value, -1, 9), TOO_MANY, 0, 1, 2, 3, 4, 5);
        allRefused("insert of a subvalue", full, (f, sub) -> f.insert(0, 5, 1, 4, sub, 9), TOO_MANY, 0, 1, 2, 3, 4);
        allRefused("insert of a subvalue", full, (f, sub) -> f.insert(0, 5, 3, 0, sub, 9), TOO_MANY, 0, 1, 2, 3, 4);
        allDue("insert of a fifth value", full, (f, value) -> f.insert(0, 5, 2, value, -1, 9), 5, 0, 1, 2, 3, 4);
        allDue("insert of a fourth subvalue", full, (f, sub) -> f.insert(0, 5, 3, 1, sub, 9), 4, 0, 1, 2, 3);
        allDue("insert of a subvalue into a full field", full, (f, value) -> f.insert(0, 5, 1, value, 1, 9), 2, 0, 1, 2, 3);
        allDue("insert of a value beside a full one", full, (f, value) -> f.insert(0, 5, 3, value, -1, 9), 3, 0, 1, 2);
    }

    private static void change() {
        asks("change: Returns the previous number");
        CountedFile x = fileWith(5, "-999/0/999/1]2^^^3]4]5]6]7/8/9/10");
        due("change of the first one", x.change(0, 5, 0, 0, 0, 999), -999);
        due("change back", x.change(0, 5, 0, 0, 0, -999), 999);
        due("change to the same", x.change(0, 5, 0, 0, 0, -999), -999);
        due("change of the last subvalue", x.change(0, 5, 0, 0, 3, 5), 1);
        due("change of the last one", x.change(0, 5, 3, 4, 3, 5), 10);
        dueText("the first field", fieldOf(x, 5, 0), "-999/0/999/5]2");
        dueText("the last field", fieldOf(x, 5, 3), "3]4]5]6]7/8/9/5");

        asks("change: NO_SUCH if there is no such user, record, field, value or subvalue");
        CountedFile y = twoRecords();
        allRefused("change", y, (f, user) -> f.change(user, 5, 0, 0, 0, 1), NO_SUCH, NO_USERS);
        allRefused("change", y, (f, id) -> f.change(0, id, 0, 0, 0, 1), NO_SUCH, NO_RECORDS);
        allRefused("change", y, (f, field) -> f.change(0, 5, field, 0, 0, 1), NO_SUCH, NO_FIELDS);
        allRefused("change in an empty field", y, (f, field) -> f.change(0, 5, field, 0, 0, 1), NO_SUCH, 2);
        allRefused("change", y, (f, value) -> f.change(0, 5, 0, value, 0, 1), NO_SUCH, -1, 2, 3, 4, 5, LOWEST, HIGHEST);
        allRefused("change", y, (f, sub) -> f.change(0, 5, 0, 0, sub, 1), NO_SUCH, -1, 2, 3, 4, LOWEST, HIGHEST);
        allRefused("change behind the only one", y, (f, sub) -> f.change(0, 5, 0, 1, sub, 1), NO_SUCH, -1, 1);
        allRefused("change behind the fourth", y, (f, sub) -> f.change(0, 5, 3, 0, sub, 1), NO_SUCH, -1, 4);

        asks("change: number: -999 to 999; BAD_VALUE if number is out of range");
        allRefused("change", y, (f, number) -> f.change(0, 5, 0, 0, 0, number), BAD_VALUE, NO_NUMBERS);
        allDue("change", y, (f, number) -> f.change(0, 5, 0, 0, 0, number), 1, -999, 999);

        asks("change: LOCKED if the user may not change the record");
        allRefused("change", y, (f, user) -> f.change(user, 9, 0, 0, 0, 1), LOCKED, 0, 1, 3);
        allDue("change", y, (f, user) -> f.change(user, 9, 0, 0, 0, 1), 1, 2);
    }

    private static void remove() {
        asks("remove: sub: place of a subvalue, or -1 for the whole value");
        String field = "1/2/3/4]5]6/7]8/9/0]1";
        String[] left = {"5]6/7]8/9/0]1", "1/2/3/4]6/7]8/9/0]1", "1/2/3/4]5]8/9/0]1", "1/2/3/4]5]6/7]1", "1/2/3/4]5]6/7]8/9/0"};
        for (int place = 0; place < 4; place++) {
            for (int value = 0; value < 5; value++) {
                CountedFile x = fileWith(5, "^".repeat(place) + field + "^".repeat(3 - place));
                due("remove of a value", x.remove(0, 5, place, value, -1), 4);
                dueText("what is left", fieldOf(x, 5, place), left[value]);
            }
        }
        String[] rest = {"2/3/4", "1/3/4", "1/2/4", "1/2/3"};
        for (int place = 0; place < 4; place++) {
            for (int sub = 0; sub < 4; sub++) {
                CountedFile x = fileWith(5, "^".repeat(place) + field + "^".repeat(3 - place));
                due("remove of a subvalue", x.remove(0, 5, place, 0, sub), 5);
                dueText("what is left", fieldOf(x, 5, place), rest[sub] + "]5]6/7]8/9/0]1");
            }
        }
        String fours = "1/2/3/4]1/2/3/4]1/2/3/4]1/2/3/4]1/2/3/4";
        for (int place = 0; place < 4; place++) {
            for (int value = 0; value < 5; value++) {
                CountedFile x = fileWith(5, "^".repeat(place) + fours + "^".repeat(3 - place));
                due("remove of a subvalue", x.remove(0, 5, place, value, 1), 5);
                due("subvalues", x.subvalues(5, place, value), 3);
                due("subvalues of the next value", x.subvalues(5, place, (value + 1) % 5), 4);
                due("remove of the last subvalue", x.remove(0, 5, place, value, 2), 5);
                due("subvalues", x.subvalues(5, place, value), 2);
                dueText("what is left", fieldOf(x, 5, place), fours.substring(0, 8 * value) + "1/3" + fours.substring(8 * value + 7));
            }
        }

        asks("remove: NO_SUCH if there is no such user, record, field, value or subvalue");
        CountedFile y = twoRecords();
        allRefused("remove", y, (f, user) -> f.remove(user, 5, 0, 0, -1), NO_SUCH, NO_USERS);
        allRefused("remove", y, (f, id) -> f.remove(0, id, 0, 0, -1), NO_SUCH, NO_RECORDS);
        allRefused("remove", y, (f, fi) -> f.remove(0, 5, fi, 0, -1), NO_SUCH, NO_FIELDS);
        allRefused("remove", y, (f, value) -> f.remove(0, 5, 0, value, -1), NO_SUCH, -1, 2, 5, LOWEST, HIGHEST);
        allRefused("remove with a subvalue", y, (f, value) -> f.remove(0, 5, 0, value, 0), NO_SUCH, -1, 2, 5, LOWEST, HIGHEST);
        allRefused("remove", y, (f, sub) -> f.remove(0, 5, 0, 0, sub), NO_SUCH, -2, 2, 3, 4, LOWEST, HIGHEST);
        allRefused("remove behind the only one", y, (f, sub) -> f.remove(0, 5, 0, 1, sub), NO_SUCH, -2, 1, 2);
        allRefused("remove in an empty field", y, (f, sub) -> f.remove(0, 5, 2, 0, sub), NO_SUCH, -1, 0);

        asks("remove: LOCKED if the user may not change the record");
        allRefused("remove", y, (f, user) -> f.remove(user, 9, 0, 0, -1), LOCKED, 0, 1, 3);
        allRefused("remove of a subvalue", y, (f, user) -> f.remove(user, 9, 0, 0, 0), LOCKED, 0, 1, 3);
        allDue("remove", y, (f, user) -> f.remove(user, 9, 0, 0, -1), 1, 2);
    }

    private static void removeOnly() {
        asks("remove: a value whose only subvalue is removed is removed, too");
        String[] left = {"2]3]4]5", "1]3]4]5", "1]2]4]5", "1]2]3]5", "1]2]3]4"};
        for (int field = 0; field < 4; field++) {
            for (int value = 0; value < 5; value++) {
                CountedFile x = fileWith(5, "^".repeat(field) + "1]2]3]4]5" + "^".repeat(3 - field));
                due("remove of the only subvalue", x.remove(0, 5, field, value, 0), 4);
                dueText("what is left", fieldOf(x, 5, field), left[value]);
            }
        }
        CountedFile x = fileWith(5, "1/2^^^");
        due("remove of one of two", x.remove(0, 5, 0, 0, 0), 1);
        due("remove of the second of two", x.remove(0, 5, 0, 0, 0), 0);

        asks("remove: Returns the number of values of the field afterwards");
        CountedFile y = fileWith(5, "^^1]2]3]4]5^");
        for (int count = 4; count >= 0; count--) {
            due("remove", y.remove(0, 5, 2, count / 2, count % 2 - 1), count);
        }
    }

    private static void removeLine() {
        asks("removeLine: Removes a line: the values with this place of all associated fields that have one.");
        CountedFile x = fileWith(5, "1]2]3]4]5^1]2/3]4]5]6^1]2/3^1]2]3");
        String[] want = {"1]2]3]4]5^2/3]4]5]6^2/3^1]2]3", "1]2]3]4]5^1]4]5]6^1^1]2]3", "1]2]3]4]5^1]2/3]5]6^1]2/3^1]2]3",
            "1]2]3]4]5^1]2/3]4]6^1]2/3^1]2]3", "1]2]3]4]5^1]2/3]4]5^1]2/3^1]2]3"};
        for (int place = 0; place < 5; place++) {
            CountedFile y = x.twin();
            due("removeLine " + place, y.removeLine(0, 5, place), place < 2 ? 2 : 1);
            dueText("the record", textOf(y, 5), want[place]);
        }

        asks("removeLine: Returns the number of values that were removed");
        CountedFile all = fileWith(5, "1/2]3^4]5^6]7^8]9/1");
        due("two of them", all.twin().removeLine(0, 5, 1), 2);
        all.associate(0, true);
        due("three of them", all.twin().removeLine(0, 5, 1), 3);
        all.associate(3, true);
        due("four of them", all.removeLine(0, 5, 1), 4);
        due("four of them again", all.removeLine(0, 5, 0), 4);
        dueText("the record", textOf(all, 5), "^^^");

        asks("removeLine: NO_SUCH if there is no such user or record");
        CountedFile two = twoRecords();
        allRefused("removeLine", two, (f, user) -> f.removeLine(user, 5, 0), NO_SUCH, NO_USERS);
        allRefused("removeLine", two, (f, id) -> f.removeLine(0, id, 0), NO_SUCH, NO_RECORDS);

        asks("removeLine: NO_SUCH if no associated field has a value with this place");
        allRefused("removeLine", two, (f, place) -> f.removeLine(0, 5, place), NO_SUCH, -1, 1, 2, LOWEST, HIGHEST);
        allRefused("removeLine behind five", x, (f, place) -> f.removeLine(0, 5, place), NO_SUCH, -1, 5, 6, LOWEST, HIGHEST);
        x.associate(1, false);
        allRefused("removeLine behind two", x, (f, place) -> f.removeLine(0, 5, place), NO_SUCH, 2, 3, 4);
        x.associate(2, false);
        allRefused("removeLine without associated fields", x, (f, place) -> f.removeLine(0, 5, place), NO_SUCH, -1, 0, 1, 4);

        asks("removeLine: LOCKED if the user may not change the record");
        allRefused("removeLine", two, (f, user) -> f.removeLine(user, 9, 0), LOCKED, 0, 1, 3);
        allDue("removeLine", two, (f, user) -> f.removeLine(user, 9, 0), 1, 2);
    }

    private static CountedFile typed(CountedFile x, String text) {
        CountedFile made = x.twin();
        type(made, text);
        return made;
    }

    private static void load() {
        asks("load: Replaces all fields of a record by those of the text. The text does not change.");
        String[] texts = {"^^^", "0^^^", "^^^-999", "1/2/3/4]1]1]1]1^2^3^4",
            "1/2/3/4]5/6/7/8]9/0/1/2]3/4/5/6]7/8/9/0^^^-1/-22/-333/4]5]6/7]8/9]10",
            "-999/-998/-997/-996]-95/0/1/2]3^-999/-998/-997/-996]10^1]2]3]4]5^-1/-2/-3]400]500]60]1/2/3"};
        int[] counts = {0, 1, 1, 11, 30, 28};
        for (String before : texts) {
            CountedFile x = fileWith(5, before);
            for (int place = 0; place < texts.length; place++) {
                CountedFile y = typed(x, texts[place]);
                due("load of " + texts[place], y.load(0, 5), counts[place]);
                dueText("the record", textOf(y, 5), texts[place]);
                due("load once more", y.load(0, 5), counts[place]);
                due("the length of the text", y.clearText(), texts[place].length());
            }
        }

        asks("load: Returns the number of all subvalues of the record afterwards");
        CountedFile x = new CountedFile();
        x.create(5);
        due("load of forty-three", typed(x, "1/1/1/1]1/1/1/1]1/1/1/1]1/1/1/1]1/1/1/1^1/1/1/1]1/1/1/1]1/1/1/1]1/1/1/1]1/1/1/1^1/1/1^").load(0, 5), 43);
        due("load of none", typed(x, "^^^").load(0, 5), 0);
        due("load of twenty values", typed(x, "1]1]1]1]1^1]1]1]1]1^1]1]1]1]1^1]1]1]1]1").load(0, 5), 20);
    }

    private static void loadRefusals() {
        asks("load: NO_SUCH if there is no such user or record");
        CountedFile x = typed(twoRecords(), "^^^");
        allRefused("load", x, (f, user) -> f.load(user, 5), NO_SUCH, NO_USERS);
        allRefused("load", x, (f, id) -> f.load(0, id), NO_SUCH, NO_RECORDS);

        asks("load: BAD_TEXT if the text has a fault");
        String[] faulty = {"", "^", "^^", "^^^^", "1", "1^2^3", "^^^-", "^^^1/", "^^^1]", "^^^-0", "^^^00", "^^^1000", "^^^x", " ^^^",
            "1]2]3]4]5]6^^^", "1/2/3/4/5^^^", "^^^1]2]3]4]5]6", "1".repeat(90)};
        for (String text : faulty) {
            allRefused("load of " + text, typed(twoRecords(), text), (f, id) -> f.load(0, id), BAD_TEXT, 5, 9);
        }

        asks("load: LOCKED if the user may not change the record");
        allRefused("load", x, (f, user) -> f.load(user, 9), LOCKED, 0, 1, 3);
        allDue("load", x, (f, user) -> f.load(user, 9), 0, 2);
    }

    // ---- promises 11 to 15

    private static void associate() {
        asks("associate: Returns the number of associated fields afterwards");
        CountedFile x = new CountedFile();
        due("one of two taken", x.associate(2, false), 1);
        due("the last one taken", x.associate(1, false), 0);
        due("none taken", x.associate(1, false), 0);
        for (int field = 0; field < 4; field++) {
            due("associate", x.associate(field, true), field + 1);
            due("associate again", x.associate(field, true), field + 1);
            due("associated", x.associated(field), 1);
        }
        for (int field = 0; field < 4; field++) {
            due("associate not", x.associate(field, false), 3 - field);
            due("associated", x.associated(field), 0);
        }

        asks("associate: field: 0 to 3; NO_SUCH if there is no such field");
        allRefused("associate", twoRecords(), (f, field) -> f.associate(field, true), NO_SUCH, NO_FIELDS);
        allRefused("associate not", twoRecords(), (f, field) -> f.associate(field, false), NO_SUCH, NO_FIELDS);
    }

    private static void define() {
        asks("define: Returns the previous kind");
        for (int column = 0; column < 6; column++) {
            CountedFile x = new CountedFile();
            int previous = column < 4 ? 0 : column == 4 ? 1 : 4;
            for (int kind : new int[] {4, 4, 3, 0, 2, 1, 0}) {
                due("define", x.define(column, kind, 3, 0), previous);
                previous = kind;
            }
        }

        asks("define: second: 0 to 3: the second field (also if it does not matter)");
        CountedFile x = new CountedFile();
        for (int kind = 0; kind <= 4; kind++) {
            int k = kind;
            allRefused("define of kind " + k, x, (f, second) -> f.define(0, k, 0, second), NO_SUCH, NO_FIELDS);
            for (int second = 0; second < 4; second++) {
                x.define(0, kind, 0, second);
                due("column(0, 2)", x.column(0, 2), second);
            }
        }

        asks("define: NO_SUCH if there is no such column or field");
        allRefused("define", x, (f, column) -> f.define(column, 0, 0, 0), NO_SUCH, NO_COLUMNS);
        allRefused("define", x, (f, first) -> f.define(0, 0, first, 0), NO_SUCH, NO_FIELDS);
        allRefused("define with another kind", x, (f, first) -> f.define(0, 4, first, 0), NO_SUCH, NO_FIELDS);
        for (int first = 0; first < 4; first++) {
            x.define(5, 0, first, 1);
            due("column(5, 1)", x.column(5, 1), first);
        }

        asks("define: kind: 0 to 4; BAD_VALUE if kind is out of range");
        allRefused("define", x, (f, kind) -> f.define(0, kind, 0, 0), BAD_VALUE, -1, 5, LOWEST, HIGHEST);
        allDue("define", x, (f, kind) -> {
            f.define(0, kind, 0, 0);
            return f.column(0, 0) - kind;
        }, 0, 0, 1, 2, 3, 4);
    }

    private static void dueSelected(CountedFile x, int test, int number, boolean isEvery, String want) {
        CountedFile y = x.twin();
        int count = want.isEmpty() ? 0 : want.split(" ").length;
        due("select " + test + " " + number + " " + isEvery, y.select(0, test, number, isEvery, 3), count);
        dueText("the list of " + test + " " + number + " " + isEvery, listOf(y, 3), want);
    }

    /** The numbers 6 and 8 are in the record 2, 7 alone is in 5, 8 and 7 are in 7, none is in 8. */
    private static CountedFile selectable() {
        CountedFile x = fileWith(5, "7^^^");
        add(x, 8, "^7^^");
        add(x, 2, "6]8^^^");
        add(x, 7, "8/7^^^");
        return x;
    }

    private static void selectTests() {
        asks("select: test: 0 for less than the number, 1 for equal to it, 2 for greater than it");
        CountedFile x = fileWith(5, "7^^^");
        for (boolean isEvery : new boolean[] {false, true}) {
            dueSelected(x, 0, 8, isEvery, "5");
            dueSelected(x, 0, 7, isEvery, "");
            dueSelected(x, 0, 6, isEvery, "");
            dueSelected(x, 1, 8, isEvery, "");
            dueSelected(x, 1, 7, isEvery, "5");
            dueSelected(x, 1, 6, isEvery, "");
            dueSelected(x, 2, 8, isEvery, "");
            dueSelected(x, 2, 7, isEvery, "");
            dueSelected(x, 2, 6, isEvery, "5");
            dueSelected(x, 0, 1000000, isEvery, "5");
            dueSelected(x, 2, -1000000, isEvery, "5");
            dueSelected(x, 0, -1000000, isEvery, "");
            dueSelected(x, 2, 1000000, isEvery, "");
        }
        CountedFile products = fileWith(5, "^999^999^");
        products.define(0, 4, 1, 2);
        dueSelected(products, 1, 998001, true, "5");
        dueSelected(products, 2, 998000, true, "5");
        dueSelected(products, 0, 998001, true, "");
    }

    private static void selectAnyAndEvery() {
        asks("select: if it is false, a record is selected if at least one of the numbers that the column gives for it passes the"
                + " test");
        CountedFile x = selectable();
        dueSelected(x, 0, 7, false, "2");
        dueSelected(x, 0, 8, false, "2 5 7");
        dueSelected(x, 1, 8, false, "2 7");
        dueSelected(x, 2, 6, false, "2 5 7");
        dueSelected(x, 2, 7, false, "2 7");
        dueSelected(x, 0, 1000000, false, "2 5 7");

        asks("select: if it is true, a record is selected if the column gives at least one number for it and all of them pass the"
                + " test");
        dueSelected(x, 0, 7, true, "");
        dueSelected(x, 0, 8, true, "5");
        dueSelected(x, 0, 9, true, "2 5 7");
        dueSelected(x, 1, 7, true, "5");
        dueSelected(x, 1, 8, true, "");
        dueSelected(x, 2, 6, true, "5 7");
        dueSelected(x, 2, 5, true, "2 5 7");
        dueSelected(x, 0, 1000000, true, "2 5 7");
        CountedFile y = x.twin();
        y.define(0, 1, 0, 0);
        dueSelected(y, 1, 0, true, "8");
        dueSelected(y, 0, 3, true, "2 5 7 8");
        dueSelected(new CountedFile(), 0, 1000000, true, "");
        dueSelected(new CountedFile(), 0, 1000000, false, "");

        asks("select: saves their ids as a list, in place of what it was");
        CountedFile z = selectable();
        due("select", z.select(0, 2, 5, false, 7), 3);
        due("select of another", z.select(0, 1, 6, false, 7), 1);
        dueText("the list", listOf(z, 7), "2");
        due("select of none", z.select(0, 1, 99, false, 7), 0);
        dueText("the list", listOf(z, 7), "");

        asks("select: Returns the number of selected records");
        CountedFile ten = fileOf(10);
        due("select of ten", ten.select(4, 1, 0, true, 0), 10);
        ten.delete(0, 0);
        due("select of nine", ten.select(4, 1, 0, true, 0), 9);
        dueText("the list", listOf(ten, 0), "11 22 33 44 55 66 77 88 99");
    }

    private static void selectRefusals() {
        asks("select: NO_SUCH if there is no such column or list");
        CountedFile x = selectable();
        x.select(0, 2, 5, false, 0);
        allRefused("select", x, (f, column) -> f.select(column, 0, 0, false, 0), NO_SUCH, NO_COLUMNS);
        allRefused("select", x, (f, list) -> f.select(0, 0, 0, false, list), NO_SUCH, NO_LISTS);

        for (int column = 0; column < 6; column++) {
            CountedFile y = fileWith(5, "1^1^1^1");
            due("select by " + column, y.select(column, 1, 1, true, 7), 1);
            due("select into " + column, y.select(0, 1, 1, true, column + 1), 1);
        }

        asks("select: number: -1000000 to 1000000; BAD_VALUE if test or number is out of range");
        allRefused("select", x, (f, test) -> f.select(0, test, 0, false, 0), BAD_VALUE, NO_CHOICES);
        for (int test = 0; test < 3; test++) {
            int t = test;
            allRefused("select", x, (f, number) -> f.select(0, t, number, false, 0), BAD_VALUE, -1000001, 1000001, LOWEST, HIGHEST);
            allRefused("select", x, (f, number) -> f.select(0, t, number, true, 0), BAD_VALUE, -1000001, 1000001, LOWEST, HIGHEST);
        }
        allDue("select", x, (f, number) -> f.select(0, 1, number, false, 0), 0, -1000000, -999999, 999999, 1000000);
    }

    private static CountedFile withLists() {
        CountedFile x = fileOf(10);
        x.insert(0, 0, 0, 0, -1, 1);
        x.insert(0, 44, 0, 0, -1, 2);
        x.insert(0, 99, 0, 0, -1, 3);
        x.select(0, 0, 3, false, 0);
        x.select(0, 2, 1, false, 7);
        x.select(4, 0, 5, false, 6);
        return x;
    }

    private static void dueCombined(CountedFile x, int how, int first, int second, int list, String want) {
        CountedFile y = x.twin();
        int count = want.isEmpty() ? 0 : want.split(" ").length;
        String call = "combine(" + how + ", " + first + ", " + second + ", " + list + ")";
        due(call, y.combine(how, first, second, list), count);
        dueText(call + " makes the list", listOf(y, list), want);
        for (int other = 0; other < 8; other++) {
            if (other != list) {
                dueText(call + " leaves the list " + other, listOf(y, other), listOf(x, other));
            }
        }
    }

    private static void combine() {
        asks("combine: how: 0 for the ids that are in both, 1 for those that are in at least one, 2 for those that are in the first"
                + " and not in the second");
        CountedFile x = withLists();
        String all = "0 11 22 33 44 55 66 77 88 99";
        dueCombined(x, 0, 0, 7, 3, "44");
        dueCombined(x, 1, 0, 7, 3, "0 44 99");
        dueCombined(x, 2, 0, 7, 3, "0");
        dueCombined(x, 2, 7, 0, 3, "99");
        dueCombined(x, 0, 6, 1, 3, "");
        dueCombined(x, 1, 6, 1, 3, all);
        dueCombined(x, 2, 6, 1, 3, all);
        dueCombined(x, 2, 1, 6, 3, "");
        for (int how = 0; how < 3; how++) {
            dueCombined(x, how, 1, 2, 6, "");
            dueCombined(x, how, 6, 6, 3, how == 2 ? "" : all);
        }

        asks("combine: list: 0 to 7: the name of the result (it can be one of both)");
        dueCombined(x, 0, 0, 7, 0, "44");
        dueCombined(x, 0, 0, 7, 7, "44");
        dueCombined(x, 1, 0, 7, 0, "0 44 99");
        dueCombined(x, 1, 0, 7, 7, "0 44 99");
        dueCombined(x, 2, 0, 7, 0, "0");
        dueCombined(x, 2, 0, 7, 7, "0");
        dueCombined(x, 0, 6, 6, 6, all);
        dueCombined(x, 1, 6, 6, 6, all);
        dueCombined(x, 2, 6, 6, 6, "");

        asks("combine: saves the result as a list, in place of what it was");
        dueCombined(x, 0, 0, 7, 6, "44");
        dueCombined(x, 2, 6, 7, 0, "0 11 22 33 55 66 77 88");

        asks("combine: Returns the number of ids of the result");
        CountedFile counted = withLists();
        due("of all", counted.combine(1, 6, 0, 5), 10);
        due("of all but two", counted.combine(2, 6, 0, 5), 8);
        due("of two", counted.combine(0, 6, 7, 5), 2);
        due("of none", counted.combine(0, 6, 1, 5), 0);

        asks("combine: NO_SUCH if there is no such list");
        allRefused("combine, first", x, (f, list) -> f.combine(0, list, 0, 0), NO_SUCH, NO_LISTS);
        allRefused("combine, second", x, (f, list) -> f.combine(0, 0, list, 0), NO_SUCH, NO_LISTS);
        allRefused("combine, list", x, (f, list) -> f.combine(0, 0, 0, list), NO_SUCH, NO_LISTS);

        asks("combine: BAD_VALUE if how is out of range");
        allRefused("combine", x, (f, how) -> f.combine(how, 0, 7, 6), BAD_VALUE, NO_CHOICES);
    }

    private static void clearList() {
        asks("clearList: Empties a saved list. Returns the number of ids that it had");
        CountedFile x = withLists();
        int[] sizes = {2, 0, 0, 0, 0, 0, 10, 2};
        for (int list = 0; list < 8; list++) {
            CountedFile y = x.twin();
            due("clearList(" + list + ")", y.clearList(list), sizes[list]);
            due("listSize", y.listSize(list), 0);
            due("listAt", y.listAt(list, 0), NONE);
            due("clearList again", y.clearList(list), 0);
            for (int other = 0; other < 8; other++) {
                due("listSize(" + other + ")", y.listSize(other), other == list ? 0 : sizes[other]);
            }
        }

        asks("clearList: NO_SUCH if there is no such list");
        allRefused("clearList", x, CountedFile::clearList, NO_SUCH, NO_LISTS);
    }

    // ---- promises 16 to 21

    private static void append() {
        asks("append: character: 32 to 126; BAD_VALUE if character is out of range");
        CountedFile x = new CountedFile();
        for (int character = 32; character <= 126; character++) {
            due("append(" + character + ")", x.twin().append(character), 1);
        }
        int[] no = {31, 127, 128, 255, 256 + 49, 65536 + 49, 0, -1, -49, LOWEST, HIGHEST};
        allRefused("append", x, CountedFile::append, BAD_VALUE, no);
        type(x, "1".repeat(90));
        allRefused("append to a full text", x, CountedFile::append, BAD_VALUE, no);

        asks("append: Returns the length of the text");
        CountedFile y = new CountedFile();
        for (int length = 1; length <= 90; length++) {
            due("append", y.append(length % 2 == 0 ? 32 : 126), length);
        }

        asks("append: TOO_MANY if the text has 90 characters");
        allRefused("append", y, CountedFile::append, TOO_MANY, 32, 48, 94, 126);
        y.clearText();
        due("append after clearText", y.append(48), 1);
    }

    private static void clearText() {
        asks("clearText: Returns the length that the text had.");
        for (int length = 0; length <= 90; length++) {
            CountedFile x = typed(new CountedFile(), "^".repeat(length));
            due("clearText", x.clearText(), length);
            due("fault of the empty text", x.fault(), 0);
            due("clearText again", x.clearText(), 0);
            due("append", x.append('5'), 1);
        }
    }

    private static void fault() {
        asks("fault: Returns the fault; NONE if the text has no fault.");
        for (int length = 0; length <= 90; length++) {
            due("carets", typed(new CountedFile(), "^".repeat(length)).fault(), length < 3 ? length : length == 3 ? NONE : 3);
            due("ones", typed(new CountedFile(), "1".repeat(length)).fault(), Math.min(length, 3));
            due("blanks", typed(new CountedFile(), " ".repeat(length)).fault(), 0);
        }
        String longest = "-999/-998/-997/-996]-95/0/1/2]3^-999/-998/-997/-996]10^1]2]3]4]5^-1/-2/-3]400]500]60]1/2/3";
        due("ninety characters", typed(new CountedFile(), longest).fault(), NONE);
        due("its beginning", typed(new CountedFile(), longest.substring(0, 65)).fault(), NONE);
        due("a bad last character", typed(new CountedFile(), longest.substring(0, 89) + "^").fault(), 89);
        due("a bad first character", typed(new CountedFile(), "]" + longest.substring(1)).fault(), 0);
    }

    private static void print() {
        asks("print: Prints a record: the printed text becomes its text.");
        CountedFile x = twoRecords();
        x.create(0);
        due("print", x.print(5), 16);
        dueText("the printed text", printedOf(x), "1/2]3^4^^5/6/7/8");
        due("print of an empty record", x.print(0), 3);
        dueText("the printed text", printedOf(x), "^^^");
        due("print of a locked record", x.print(9), 16);

        asks("print: Returns the length of the printed text");
        for (int number : new int[] {-999, -100, -99, -10, -9, -1, 0, 1, 9, 10, 99, 100, 999}) {
            CountedFile y = fileWith(5, "^" + number + "^^");
            due("print of " + number, y.print(5), 3 + String.valueOf(number).length());
            dueText("the printed text", printedOf(y), "^" + number + "^^");
        }
        CountedFile full = new CountedFile();
        full.create(5);
        for (int place = 0; place < 80; place++) {
            full.insert(0, 5, place / 20, place / 4 % 5, place % 4 == 0 ? -1 : place % 4, -999);
        }
        due("print of the longest text", full.print(5), 399);
        due("printed(398)", full.printed(398), '9');
        due("printed(399)", full.printed(399), NONE);

        asks("print: NO_SUCH if there is no such record");
        allRefused("print", x, CountedFile::print, NO_SUCH, 4, 6, 99, -1, 100, NONE, LOWEST, HIGHEST);
    }

    private static void printed() {
        asks("printed: BAD_VALUE if index is below 0");
        CountedFile x = fileWith(5, "1^^^-2");
        allRefused("printed of nothing", x, CountedFile::printed, BAD_VALUE, BELOW);
        x.print(5);
        allRefused("printed", x, CountedFile::printed, BAD_VALUE, BELOW);

        asks("printed: NONE if the printed text is not so long");
        allRefused("printed of nothing", fileWith(5, "1^^^-2"), CountedFile::printed, NONE, 0, 1, HIGHEST);
        allRefused("printed", x, CountedFile::printed, NONE, 6, 7, 89, 90, 399, 400, 1000, HIGHEST);

        asks("printed: index: index of the character, from 0; Returns its code");
        int[] want = {'1', '^', '^', '^', '-', '2'};
        for (int index = 0; index < 6; index++) {
            due("printed(" + index + ")", x.printed(index), want[index]);
        }
        x.create(6);
        x.print(6);
        due("printed(2) of a shorter text", x.printed(2), '^');
        due("printed(3) of a shorter text", x.printed(3), NONE);
    }

    private static void undo() {
        asks("undo: Restores the latest state of the history and removes it from the history.");
        CountedFile x = new CountedFile();
        for (int id = 0; id < 4; id++) {
            x.create(id);
        }
        for (int records = 3; records >= 0; records--) {
            due("undo", x.undo(), records);
            due("records", x.records(), records);
        }

        asks("undo: Returns the number of states that are left in the history; NONE if the history is empty.");
        refused("undo of nothing", new CountedFile(), CountedFile::undo, NONE);
        refused("undo after all", x, CountedFile::undo, NONE);
        CountedFile y = fileOf(10);
        for (int left = 3; left >= 0; left--) {
            due("undo", y.undo(), left);
        }
        refused("undo of what was dropped", y, CountedFile::undo, NONE);
        due("records", y.records(), 6);
        y.create(99);
        due("undo of one more", y.undo(), 0);

        asks("undo: The text and the printed text do not change.");
        CountedFile z = fileWith(5, "1^^^");
        z.print(5);
        type(z, "^^^2");
        z.load(0, 5);
        String before = printedOf(z) + typedOf(z);
        z.undo();
        dueText("the texts", printedOf(z) + typedOf(z), before);
        z.undo();
        z.undo();
        due("records", z.records(), 0);
        dueText("the printed text", printedOf(z), "1^^^");
        due("the text's length", z.clearText(), 4);
    }

    // ---- promises 22 to 33

    private static void records() {
        asks("records: Returns how many records there are.");
        for (int count = 0; count <= 10; count++) {
            due("records", fileOf(count).records(), count);
        }
    }

    private static void recordAt() {
        asks("recordAt: place: 0 for the record with the lowest id, and so on; NONE if there are not so many records");
        for (int count = 0; count <= 10; count++) {
            CountedFile x = new CountedFile();
            for (int id = count - 1; id >= 0; id--) {
                x.create(11 * id);
            }
            for (int place = 0; place < count; place++) {
                due("recordAt(" + place + ")", x.recordAt(place), 11 * place);
            }
            allRefused("recordAt", x, CountedFile::recordAt, NONE, count, count + 1, 10, 11, HIGHEST);
        }
        CountedFile mixed = new CountedFile();
        for (int id : new int[] {40, 99, 0, 50, 10, 45, 98, 1, 60, 2}) {
            mixed.create(id);
        }
        dueText("the ids", idsOf(mixed), "0 1 2 10 40 45 50 60 98 99");

        asks("recordAt: BAD_VALUE if place is below 0");
        allRefused("recordAt", mixed, CountedFile::recordAt, BAD_VALUE, BELOW);
        allRefused("recordAt of nothing", new CountedFile(), CountedFile::recordAt, BAD_VALUE, BELOW);
    }

    private static void locker() {
        asks("locker: Returns the user; NONE if it is not locked");
        for (int user = 0; user < 4; user++) {
            CountedFile x = fileOf(2);
            due("locker of a free record", x.locker(11), NONE);
            x.lock(user, 11);
            due("locker", x.locker(11), user);
            due("locker of the other record", x.locker(0), NONE);
            x.unlock(user, 11);
            due("locker of an unlocked record", x.locker(11), NONE);
        }

        asks("locker: NO_SUCH if there is no such record");
        allRefused("locker", twoRecords(), CountedFile::locker, NO_SUCH, NO_RECORDS);
    }

    private static void values() {
        asks("values: Returns the number of values");
        String[] fields = {"", "1/2/3/4", "1/2]3", "1]2]3", "1]2]3]4", "1]2]3]4]5/6/7/8"};
        for (int count = 0; count <= 5; count++) {
            for (int field = 0; field < 4; field++) {
                due("values", fileWith(5, "^".repeat(field) + fields[count] + "^".repeat(3 - field)).values(5, field), count);
            }
        }

        asks("values: NO_SUCH if there is no such record or field");
        allRefused("values", twoRecords(), (f, id) -> f.values(id, 0), NO_SUCH, NO_RECORDS);
        allRefused("values", twoRecords(), (f, field) -> f.values(5, field), NO_SUCH, NO_FIELDS);
    }

    private static void subvalues() {
        asks("subvalues: Returns the number of subvalues");
        CountedFile x = fileWith(5, "1]1/2]1/2/3]1/2/3/4]5^^^1/2/3/4]1]1]1]1/2/3/4");
        int[] first = {1, 2, 3, 4, 1};
        int[] last = {4, 1, 1, 1, 4};
        for (int value = 0; value < 5; value++) {
            due("subvalues", x.subvalues(5, 0, value), first[value]);
            due("subvalues", x.subvalues(5, 3, value), last[value]);
        }

        asks("subvalues: NO_SUCH if there is no such record, field or value");
        allRefused("subvalues", twoRecords(), (f, id) -> f.subvalues(id, 0, 0), NO_SUCH, NO_RECORDS);
        allRefused("subvalues", twoRecords(), (f, field) -> f.subvalues(5, field, 0), NO_SUCH, NO_FIELDS);
        allRefused("subvalues behind two", twoRecords(), (f, value) -> f.subvalues(5, 0, value), NO_SUCH, -1, 2, 4, 5, LOWEST, HIGHEST);
        allRefused("subvalues of an empty field", x, (f, value) -> f.subvalues(5, 1, value), NO_SUCH, -1, 0, 1);
        allRefused("subvalues behind five", x, (f, value) -> f.subvalues(5, 0, value), NO_SUCH, -1, 5, 6);
    }

    private static void get() {
        asks("get: Returns the number");
        CountedFile x = fileWith(5, "-999/-1/0/999]1^^^2]3]4]5]6/7/8/9");
        int[] first = {-999, -1, 0, 999};
        for (int sub = 0; sub < 4; sub++) {
            due("get", x.get(5, 0, 0, sub), first[sub]);
            due("get", x.get(5, 3, 4, sub), 6 + sub);
        }

        asks("get: NO_SUCH if there is no such record, field, value or subvalue");
        CountedFile y = twoRecords();
        allRefused("get", y, (f, id) -> f.get(id, 0, 0, 0), NO_SUCH, NO_RECORDS);
        allRefused("get", y, (f, field) -> f.get(5, field, 0, 0), NO_SUCH, NO_FIELDS);
        allRefused("get behind two values", y, (f, value) -> f.get(5, 0, value, 0), NO_SUCH, -1, 2, 4, 5, LOWEST, HIGHEST);
        allRefused("get behind five values", x, (f, value) -> f.get(5, 3, value, 0), NO_SUCH, -1, 5, 6);
        allRefused("get in an empty field", x, (f, sub) -> f.get(5, 1, 0, sub), NO_SUCH, -1, 0, 1);
        allRefused("get behind one subvalue", x, (f, sub) -> f.get(5, 0, 1, sub), NO_SUCH, -1, 1, 2, 3, 4, LOWEST, HIGHEST);
        allRefused("get behind four subvalues", x, (f, sub) -> f.get(5, 0, 0, sub), NO_SUCH, -1, 4, 5, LOWEST, HIGHEST);
    }

    private static void lines() {
        asks("lines: Returns the greatest number of values of an associated field");
        String[] fields = {"", "1", "1]2", "1]2]3", "1]2]3]4", "1]2]3]4]5"};
        for (int first = 0; first <= 5; first++) {
            for (int second = 0; second <= 5; second++) {
                CountedFile x = fileWith(5, "1]2]3]4]5^" + fields[first] + "^" + fields[second] + "^1]2]3]4]5");
                due("lines of " + first + " and " + second, x.lines(5), Math.max(first, second));
            }
        }

        asks("lines: 0 if no field is associated");
        CountedFile x = fileWith(5, "1]2]3]4]5^1]2^1^1");
        x.associate(1, false);
        due("lines of one field", x.lines(5), 1);
        x.associate(2, false);
        due("lines of no field", x.lines(5), 0);

        asks("lines: NO_SUCH if there is no such record");
        allRefused("lines", twoRecords(), CountedFile::lines, NO_SUCH, NO_RECORDS);
        allRefused("lines without associated fields", x, CountedFile::lines, NO_SUCH, NO_RECORDS);
    }

    private static void locate() {
        asks("locate: Returns 10 times the place of the first value that has a subvalue with this number, plus the place of the first"
                + " such subvalue in it");
        CountedFile x = fileWith(5, "1/7/7/2]7/3/1/8]-999]999/0]5/6/8/9^^^1");
        due("the first of all", x.locate(5, 0, 1), 0);
        due("twice in a value", x.locate(5, 0, 7), 1);
        due("the last of a value", x.locate(5, 0, 2), 3);
        due("in the second value", x.locate(5, 0, 3), 11);
        due("in two values", x.locate(5, 0, 8), 13);
        due("the lowest", x.locate(5, 0, -999), 20);
        due("the greatest", x.locate(5, 0, 999), 30);
        due("zero", x.locate(5, 0, 0), 31);
        due("the last of all", x.locate(5, 0, 9), 43);

        asks("locate: NO_SUCH if there is no such record or field");
        allRefused("locate", x, (f, id) -> f.locate(id, 0, 1), NO_SUCH, NO_RECORDS);
        allRefused("locate", x, (f, field) -> f.locate(5, field, 1), NO_SUCH, NO_FIELDS);

        asks("locate: number: -999 to 999; BAD_VALUE if number is out of range");
        allRefused("locate", x, (f, number) -> f.locate(5, 0, number), BAD_VALUE, NO_NUMBERS);
        allRefused("locate in an empty field", x, (f, number) -> f.locate(5, 1, number), BAD_VALUE, NO_NUMBERS);

        asks("locate: NONE if no subvalue of the field is this number");
        allRefused("locate", x, (f, number) -> f.locate(5, 0, number), NONE, 4, -1, -7, -998, 998, 10);
        allRefused("locate in an empty field", x, (f, number) -> f.locate(5, 1, number), NONE, 0, 1, -999, 999);
        CountedFile emptied = x.twin();
        emptied.remove(0, 5, 0, 4, -1);
        allRefused("locate of a removed value's number", emptied, (f, number) -> f.locate(5, 0, number), NONE, 5, 6, 9);
        emptied.remove(0, 5, 0, 0, 3);
        allRefused("locate of a removed subvalue", emptied, (f, number) -> f.locate(5, 0, number), NONE, 2);
        allRefused("locate of another field's number", x, (f, number) -> f.locate(5, 3, number), NONE, 7, -999, 999);
    }

    private static void column() {
        asks("column: what: 0 for its kind, 1 for its first field, 2 for its second field");
        for (int column = 0; column < 6; column++) {
            CountedFile x = new CountedFile();
            x.define(column, 4, 3, 1);
            due("its kind", x.column(column, 0), 4);
            due("its first field", x.column(column, 1), 3);
            due("its second field", x.column(column, 2), 1);
        }

        asks("column: NO_SUCH if there is no such column");
        allRefused("column", twoRecords(), (f, column) -> f.column(column, 1), NO_SUCH, NO_COLUMNS);

        asks("column: BAD_VALUE if what is out of range");
        for (int column = 0; column < 6; column++) {
            int c = column;
            allRefused("column", twoRecords(), (f, what) -> f.column(c, what), BAD_VALUE, NO_CHOICES);
        }
    }

    private static void associated() {
        asks("associated: Returns 1 if it is associated, otherwise 0");
        CountedFile x = new CountedFile();
        allDue("associated", x, CountedFile::associated, 0, 0, 3);
        allDue("associated", x, CountedFile::associated, 1, 1, 2);

        asks("associated: NO_SUCH if there is no such field");
        allRefused("associated", x, CountedFile::associated, NO_SUCH, NO_FIELDS);
    }

    private static void listSize() {
        asks("listSize: Returns the number of ids");
        int[] sizes = {2, 0, 0, 0, 0, 0, 10, 2};
        for (int list = 0; list < 8; list++) {
            due("listSize", withLists().listSize(list), sizes[list]);
        }

        asks("listSize: NO_SUCH if there is no such list");
        allRefused("listSize", withLists(), CountedFile::listSize, NO_SUCH, NO_LISTS);
    }

    private static void listAt() {
        asks("listAt: place: 0 for the lowest id, and so on; NONE if the list has not so many ids");
        CountedFile x = withLists();
        for (int place = 0; place < 10; place++) {
            due("listAt(6, " + place + ")", x.listAt(6, place), 11 * place);
        }
        allRefused("listAt behind ten", x, (f, place) -> f.listAt(6, place), NONE, 10, 11, 99, 100, HIGHEST);
        due("listAt(0, 0)", x.listAt(0, 0), 0);
        due("listAt(0, 1)", x.listAt(0, 1), 44);
        allRefused("listAt behind two", x, (f, place) -> f.listAt(0, place), NONE, 2, 3, 99, 100, HIGHEST);
        due("listAt(7, 1)", x.listAt(7, 1), 99);
        allRefused("listAt of an empty list", x, (f, place) -> f.listAt(1, place), NONE, 0, 1, 99, HIGHEST);

        asks("listAt: NO_SUCH if there is no such list");
        allRefused("listAt", x, (f, list) -> f.listAt(list, 0), NO_SUCH, NO_LISTS);

        asks("listAt: BAD_VALUE if place is below 0");
        allRefused("listAt", x, (f, place) -> f.listAt(6, place), BAD_VALUE, BELOW);
        allRefused("listAt of an empty list", x, (f, place) -> f.listAt(1, place), BAD_VALUE, BELOW);
    }

    // ---- promises 34 to 40

    private static void numbers() {
        asks("numbers: Returns the number of numbers");
        CountedFile x = fileWith(5, "^1]2]3^4]5]6/7]8]9^1/1/1/1]2/2/2/2]3/3/3/3]4/4/4/4]5/5/5/5");
        int[] want = {0, 3, 6, 20, 1, 3};
        for (int column = 0; column < 6; column++) {
            due("numbers(5, " + column + ")", x.numbers(5, column), want[column]);
        }
        int[][] counts = {{0, 1, 1, 0, 0}, {3, 1, 1, 3, 0}, {6, 1, 1, 5, 0}, {20, 1, 1, 5, 0}};
        for (int field = 0; field < 4; field++) {
            for (int kind = 0; kind <= 4; kind++) {
                x.define(2, kind, field, 0);
                due("numbers of kind " + kind + " of field " + field, x.numbers(5, 2), counts[field][kind]);
            }
        }

        asks("numbers: NO_SUCH if there is no such record or column");
        allRefused("numbers", twoRecords(), (f, id) -> f.numbers(id, 0), NO_SUCH, NO_RECORDS);
        allRefused("numbers", twoRecords(), (f, column) -> f.numbers(5, column), NO_SUCH, NO_COLUMNS);
    }

    private static void numberAt() {
        asks("numberAt: place: 0 for the first number, and so on; NONE if the column gives not so many numbers");
        CountedFile x = fileWith(5, "^1]2]3^4]5]6/7]8]9^1/2/3/4]5/6/7/8]9/10/11/12]13/14/15/16]17/18/19/20");
        for (int place = 0; place < 20; place++) {
            due("numberAt(5, 3, " + place + ")", x.numberAt(5, 3, place), place + 1);
        }
        allRefused("numberAt behind twenty", x, (f, place) -> f.numberAt(5, 3, place), NONE, 20, 21, HIGHEST);
        allRefused("numberAt of nothing", x, (f, place) -> f.numberAt(5, 0, place), NONE, 0, 1, 20, HIGHEST);
        allRefused("numberAt behind one", x, (f, place) -> f.numberAt(5, 4, place), NONE, 1, 2, 20, HIGHEST);
        allRefused("numberAt behind three", x, (f, place) -> f.numberAt(5, 5, place), NONE, 3, 4, 5, HIGHEST);

        asks("numberAt: NO_SUCH if there is no such record or column");
        allRefused("numberAt", twoRecords(), (f, id) -> f.numberAt(id, 0, 0), NO_SUCH, NO_RECORDS);
        allRefused("numberAt", twoRecords(), (f, column) -> f.numberAt(5, column, 0), NO_SUCH, NO_COLUMNS);

        asks("numberAt: BAD_VALUE if place is below 0");
        allRefused("numberAt", x, (f, place) -> f.numberAt(5, 3, place), BAD_VALUE, BELOW);
        allRefused("numberAt of nothing", x, (f, place) -> f.numberAt(5, 0, place), BAD_VALUE, BELOW);
    }

    /** Ten records with twenty times the same number each. */
    private static CountedFile longestList() {
        CountedFile x = fileOf(10);
        type(x, "4/4/4/4]4/4/4/4]4/4/4/4]4/4/4/4]4/4/4/4^^^");
        for (int id = 0; id < 10; id++) {
            x.load(0, 11 * id);
        }
        return x;
    }

    private static void exploded() {
        asks("exploded: Returns the number of its entries");
        due("an empty file", new CountedFile().exploded(0), 0);
        due("an empty record", fileOf(1).exploded(0), 0);
        due("one number of an empty record", fileOf(1).exploded(4), 1);
        due("ten empty records", fileOf(10).exploded(4), 10);
        due("one number", fileWith(5, "1^^^").exploded(0), 1);
        due("the longest list", longestList().exploded(0), 200);

        asks("exploded: NO_SUCH if there is no such column");
        allRefused("exploded", twoRecords(), CountedFile::exploded, NO_SUCH, NO_COLUMNS);
        allRefused("exploded of an empty file", new CountedFile(), CountedFile::exploded, NO_SUCH, NO_COLUMNS);
    }

    private static void explodedAt() {
        asks("explodedAt: index: 0 for the first entry, and so on; part: 0 for the number, 1 for the id of its record, 2 for its place"
                + " in the sequence of the record");
        CountedFile x = longestList();
        for (int index = 0; index < 200; index += index < 180 ? 19 : 1) {
            for (boolean isDescending : new boolean[] {false, true}) {
                due("its number", x.explodedAt(0, isDescending, index, 0), 4);
                due("its id", x.explodedAt(0, isDescending, index, 1), index / 20 * 11);
                due("its place", x.explodedAt(0, isDescending, index, 2), index % 20);
            }
        }
        x.change(0, 99, 0, 4, 3, 3);
        x.change(0, 0, 0, 0, 0, 5);
        due("the lowest number's id", x.explodedAt(0, false, 0, 1), 99);
        due("the lowest number's place", x.explodedAt(0, false, 0, 2), 19);
        due("the greatest number", x.explodedAt(0, false, 199, 0), 5);
        due("the greatest number's place", x.explodedAt(0, false, 199, 2), 0);
        due("the first one, descending", x.explodedAt(0, true, 0, 0), 5);
        due("the last one, descending", x.explodedAt(0, true, 199, 0), 3);
        due("the last one's id, descending", x.explodedAt(0, true, 199, 1), 99);

        asks("explodedAt: NO_SUCH if there is no such column");
        allRefused("explodedAt", twoRecords(), (f, column) -> f.explodedAt(column, true, 0, 0), NO_SUCH, NO_COLUMNS);

        asks("explodedAt: BAD_VALUE if index is below 0 or part is out of range");
        allRefused("explodedAt", twoRecords(), (f, index) -> f.explodedAt(0, false, index, 0), BAD_VALUE, BELOW);
        allRefused("explodedAt", twoRecords(), (f, part) -> f.explodedAt(0, false, 0, part), BAD_VALUE, NO_CHOICES);
        allRefused("explodedAt of nothing", fileOf(0), (f, part) -> f.explodedAt(0, true, 0, part), BAD_VALUE, NO_CHOICES);

        asks("explodedAt: NONE if the list has not so many entries");
        allRefused("explodedAt", twoRecords(), (f, index) -> f.explodedAt(0, false, index, 0), NONE, 6, 7, 200, HIGHEST);
        allRefused("explodedAt, descending", twoRecords(), (f, index) -> f.explodedAt(0, true, index, 1), NONE, 6, 7, 200, HIGHEST);
        allRefused("explodedAt of nothing", fileOf(0), (f, index) -> f.explodedAt(4, false, index, 0), NONE, 0, 1, HIGHEST);
        allDue("explodedAt of the longest list", x, (f, index) -> f.explodedAt(0, false, index, 0), NONE, 200, 201, HIGHEST);
    }

    private static void total() {
        asks("total: list: 0 to 7: only records whose ids are in this list count; -1: all records count");
        CountedFile x = withLists();
        due("all records", x.total(0, -1), 6);
        due("the list 0", x.total(0, 0), 3);
        due("the list 7", x.total(0, 7), 5);
        due("the list of all", x.total(0, 6), 6);
        due("an empty list", x.total(0, 1), 0);
        due("a column of counts", x.total(4, 6), 3);
        due("a column without numbers", x.total(3, -1), 0);
        x.delete(0, 44);
        due("without a deleted one", x.total(0, 0), 1);
        due("an empty file", new CountedFile().total(0, -1), 0);

        asks("total: Returns the sum");
        CountedFile full = fileOf(10);
        type(full, "999]999]999]999]999^999]999]999]999]999^-999]-999]-999]-999]-999^");
        for (int id = 0; id < 10; id++) {
            full.load(0, 11 * id);
        }
        due("the lowest sum", full.total(5, -1), -49900050);
        full.define(5, 4, 0, 1);
        due("the greatest sum", full.total(5, -1), 49900050);
        full.define(5, 0, 2, 0);
        due("a sum of fifty", full.total(5, -1), -49950);
        due("of twice twenty times 4, ten times", longestList().total(0, -1), 800);

        asks("total: NO_SUCH if there is no such column or list");
        allRefused("total", x, (f, column) -> f.total(column, -1), NO_SUCH, NO_COLUMNS);
        allRefused("total", x, (f, list) -> f.total(0, list), NO_SUCH, -2, 8, LOWEST, HIGHEST);
    }

    private static void mean() {
        asks("mean: Returns the sum of all entries of its exploded list, as a float, divided by their number, as a float");
        dueFloat("of one", fileWith(5, "-999^^^").mean(0), -999.0f);
        dueFloat("of two", fileWith(5, "1/2^^^").mean(0), 1.5f);
        dueFloat("of three", fileWith(5, "1/1]0^^^").mean(0), 2.0f / 3.0f);
        dueFloat("of three below 0", fileWith(5, "-1/-1]0^^^").mean(0), -2.0f / 3.0f);
        dueFloat("of a sum of 0", fileWith(5, "1/-1^^^").mean(0), 0.0f);
        CountedFile x = fileOf(10);
        type(x, "999]999]999]999]998^999]999]999]999]997^^");
        x.define(5, 4, 0, 1);
        for (int id = 0; id < 10; id++) {
            x.load(0, 11 * id);
        }
        int sum = 10 * (4 * 998001 + 998 * 997);
        due("the sum", x.total(5, -1), sum);
        dueFloat("of fifty", x.mean(5), (float) sum / (float) 50);
        dueFloat("of two hundred", longestList().mean(0), 4.0f);

        asks("mean: 0.0f if the list is empty");
        dueFloat("of an empty file", new CountedFile().mean(4), 0.0f);
        dueFloat("of empty records", fileOf(10).mean(0), 0.0f);
        dueFloat("of their counts", fileOf(10).mean(4), 0.0f);

        asks("mean: -2000000.0f if there is no such column");
        for (int column : NO_COLUMNS) {
            dueFloat("mean(" + column + ")", twoRecords().mean(column), -2000000.0f);
            dueFloat("mean(" + column + ") of an empty file", new CountedFile().mean(column), -2000000.0f);
        }
    }

    private static void repeated() {
        asks("repeated: Returns the number of different numbers of which the exploded list has at least two entries");
        String[] fields = {"", "1", "1]2]3", "1/1", "1/1/1", "1]2]1", "1/2]1/2", "1/1/2]3/3/3/3]-3]0/0", "-999/999]-999/999", "5/1/5/1]2/5"};
        int[] want = {0, 0, 0, 1, 1, 1, 2, 3, 2, 2};
        for (int place = 0; place < fields.length; place++) {
            due("repeated of " + fields[place], fileWith(5, fields[place] + "^^^").repeated(0), want[place]);
        }
        CountedFile two = fileWith(5, "1]2^^^");
        add(two, 6, "2]3^^^");
        due("in two records", two.repeated(0), 1);
        due("an empty file", new CountedFile().repeated(0), 0);
        due("the longest list", longestList().repeated(0), 1);
        CountedFile pairs = fileOf(10);
        for (int pair = 0; pair < 5; pair++) {
            StringBuilder field = new StringBuilder();
            for (int place = 0; place < 20; place++) {
                field.append(place == 0 ? "" : place % 4 == 0 ? "]" : "/").append(20 * pair + place);
            }
            type(pairs, field + "^^^");
            pairs.load(0, 11 * pair);
            pairs.load(0, 99 - 11 * pair);
        }
        due("a hundred numbers, twice each", pairs.repeated(0), 100);

        asks("repeated: NO_SUCH if there is no such column");
        allRefused("repeated", twoRecords(), CountedFile::repeated, NO_SUCH, NO_COLUMNS);
    }
}
