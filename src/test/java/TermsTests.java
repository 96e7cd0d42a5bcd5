import java.util.ArrayList;
import java.util.List;
import java.util.function.ToIntFunction;

/** For each sentence of "Terms" that names a bound, a test of that sentence, called by its words. */
public final class TermsTests extends Checks {
    private static final int[] NO_USERS = {-1, 4, NONE, LOWEST, HIGHEST};
    private static final int[] NO_IDS = {-1, 100, NONE, LOWEST, HIGHEST};
    private static final int[] NO_FIELDS = {-1, 4, LOWEST, HIGHEST};
    private static final int[] NO_COLUMNS = {-1, 6, LOWEST, HIGHEST};
    private static final int[] NO_LISTS = {-1, 8, LOWEST, HIGHEST};
    private static final int[] NO_NUMBERS = {-1000, 1000, NONE, LOWEST, HIGHEST};

    public static void main(String[] args) {
        atMostTenRecords();
        idsFrom0To99();
        noTwoRecordsWithOneId();
        fieldsFrom0To3();
        atMostFiveValues();
        fieldCanBeEmpty();
        oneToFourSubvalues();
        numbersTo999();
        placesFrom0();
        usersFrom0To3();
        lockedByOneUser();
        mayChange();
        associatedOrNot();
        linesOfAssociatedFields();
        columnsFrom0To5();
        kindsFrom0To4();
        secondFieldMattersForKind4();
        kind0();
        kind1();
        kind2();
        kind3();
        kind4();
        columnsAtFirst();
        explodedListOfAllNumbers();
        ascendingOrder();
        descendingOrder();
        listsFrom0To7();
        listsAreSets();
        idsWithoutRecord();
        atMostNinetyCharacters();
        fieldsOfATextCanBeEmpty();
        fiveValuesAndFourNumbers();
        numbersOfATextTo999();
        minusAndZeros();
        firstFaultyCharacter();
        howeverLong();
        notComplete();
        printedInTheSameForm();
        printedBeyondNinety();
        whatTheStateIs();
        allOfTheStateIsRestored();
        recordedEvenIfNothingChanges();
        onlyActionsAreRecorded();
        viewsChangeNothing();
        errorsAreNotRecorded();
        atMostFourStates();
        textsAreNoPartOfTheState();
        historyIsNoPartOfTheState();
        constants();
        errorsInTheirOrder();
        noneIsNoError();
        noSuchRecord();
        finish();
    }

    private static CountedFile fullFile() {
        CountedFile x = new CountedFile();
        for (int id = 0; id < 10; id++) {
            x.create(11 * id);
        }
        return x;
    }

    /** Each value of all fields has all subvalues; the numbers are those from 0 to 79. */
    private static CountedFile fullRecord(int id) {
        CountedFile x = new CountedFile();
        x.create(id);
        for (int place = 0; place < 80; place++) {
            int sub = place % 4;
            x.insert(0, id, place / 20, place / 4 % 5, sub == 0 ? -1 : sub, place);
        }
        return x;
    }

    // ---- records

    private static void atMostTenRecords() {
        asks("The file has at most 10 records");
        CountedFile x = new CountedFile();
        for (int id = 0; id < 10; id++) {
            due("create(" + 11 * id + ")", x.create(11 * id), id + 1);
        }
        due("records()", x.records(), 10);
        dueText("the ids", idsOf(x), "0 11 22 33 44 55 66 77 88 99");
        allRefused("create", x, CountedFile::create, TOO_MANY, 1, 10, 12, 50, 98);
        allDue("create", x, (f, id) -> {
            f.delete(0, id);
            return f.create(98);
        }, 10, 0, 11, 55, 99);
        allDue("records", x, (f, id) -> {
            f.delete(0, id);
            return f.records();
        }, 9, 0, 11, 55, 99);
    }

    private static void idsFrom0To99() {
        asks("each with an id from 0 to 99");
        for (int id = 0; id <= 99; id++) {
            CountedFile x = new CountedFile();
            due("create(" + id + ")", x.create(id), 1);
            due("recordAt(0) after create(" + id + ")", x.recordAt(0), id);
            due("insert into " + id, x.insert(0, id, 0, 0, -1, 5), 1);
            due("select", x.select(0, 1, 5, true, 0), 1);
            due("listAt(0, 0) with " + id, x.listAt(0, 0), id);
            due("delete(0, " + id + ")", x.delete(0, id), 0);
        }
        allRefused("create", new CountedFile(), CountedFile::create, BAD_VALUE, NO_IDS);
        allRefused("create in a full file", fullFile(), CountedFile::create, BAD_VALUE, NO_IDS);
    }

    private static void noTwoRecordsWithOneId() {
        asks("no two records have the same id");
        CountedFile x = fullFile();
        allRefused("create", x, CountedFile::create, NOT_POSSIBLE, 0, 11, 22, 33, 44, 55, 66, 77, 88, 99);
        CountedFile one = fileWith(5, "1^^^");
        allRefused("create", one, CountedFile::create, NOT_POSSIBLE, 5);
        one.lock(2, 5);
        allRefused("create of a locked one", one, CountedFile::create, NOT_POSSIBLE, 5);
    }

    private static void fieldsFrom0To3() {
        asks("A record has the fields 0 to 3.");
        CountedFile x = fileWith(1, "1^2^3^4");
        allDue("values", x, (f, field) -> f.values(1, field), 1, 0, 1, 2, 3);
        allDue("subvalues", x, (f, field) -> f.subvalues(1, field, 0), 1, 0, 1, 2, 3);
        allDue("get", x, (f, field) -> f.get(1, field, 0, 0) - field, 1, 0, 1, 2, 3);
        allDue("locate", x, (f, field) -> f.locate(1, field, field + 1), 0, 0, 1, 2, 3);
        allDue("insert", x, (f, field) -> f.insert(0, 1, field, 1, -1, 5), 2, 0, 1, 2, 3);
        allDue("change", x, (f, field) -> f.change(0, 1, field, 0, 0, 5) - field, 1, 0, 1, 2, 3);
        allDue("remove", x, (f, field) -> f.remove(0, 1, field, 0, -1), 0, 0, 1, 2, 3);
        allDue("define, first", x, (f, field) -> f.define(0, 4, field, 0), 0, 0, 1, 2, 3);
        allDue("define, second", x, (f, field) -> f.define(0, 4, 0, field), 0, 0, 1, 2, 3);
        allRefused("values", x, (f, field) -> f.values(1, field), NO_SUCH, NO_FIELDS);
        allRefused("subvalues", x, (f, field) -> f.subvalues(1, field, 0), NO_SUCH, NO_FIELDS);
        allRefused("get", x, (f, field) -> f.get(1, field, 0, 0), NO_SUCH, NO_FIELDS);
        allRefused("locate", x, (f, field) -> f.locate(1, field, 1), NO_SUCH, NO_FIELDS);
        allRefused("insert", x, (f, field) -> f.insert(0, 1, field, 0, -1, 5), NO_SUCH, NO_FIELDS);
        allRefused("insert of a subvalue", x, (f, field) -> f.insert(0, 1, field, 0, 0, 5), NO_SUCH, NO_FIELDS);
        allRefused("change", x, (f, field) -> f.change(0, 1, field, 0, 0, 5), NO_SUCH, NO_FIELDS);
        allRefused("remove", x, (f, field) -> f.remove(0, 1, field, 0, -1), NO_SUCH, NO_FIELDS);
        allRefused("remove of a subvalue", x, (f, field) -> f.remove(0, 1, field, 0, 0), NO_SUCH, NO_FIELDS);
        allRefused("associate", x, (f, field) -> f.associate(field, true), NO_SUCH, NO_FIELDS);
        allRefused("associated", x, CountedFile::associated, NO_SUCH, NO_FIELDS);
        allRefused("define, first", x, (f, field) -> f.define(0, 0, field, 0), NO_SUCH, NO_FIELDS);
        allRefused("define, second", x, (f, field) -> f.define(0, 0, 0, field), NO_SUCH, NO_FIELDS);
    }

    private static void atMostFiveValues() {
        asks("A field is a sequence of at most 5 values");
        for (int field = 0; field < 4; field++) {
            CountedFile x = new CountedFile();
            x.create(1);
            int f = field;
            for (int value = 0; value < 5; value++) {
                due("insert at the end", x.insert(0, 1, f, value, -1, value), value + 1);
            }
            due("values(1, " + f + ")", x.values(1, f), 5);
            dueText("the field", fieldOf(x, 1, f), "0]1]2]3]4");
            allRefused("insert of a sixth value", x, (y, value) -> y.insert(0, 1, f, value, -1, 9), TOO_MANY, 0, 1, 2, 3, 4, 5);
            allDue("remove, then insert", x, (y, value) -> {
                y.remove(0, 1, f, value, -1);
                return y.insert(0, 1, f, 4, -1, 9);
            }, 5, 0, 1, 2, 3, 4);
            allDue("insert into another field", x, (y, other) -> y.insert(0, 1, other, 0, -1, 9), 1, (f + 1) % 4, (f + 2) % 4, (f + 3) % 4);
        }
        for (int place = 0; place < 5; place++) {
            CountedFile x = fileWith(1, "^1]2/22]3]4^^");
            x.insert(0, 1, 1, place, -1, 9);
            String[] want = {"9]1]2/22]3]4", "1]9]2/22]3]4", "1]2/22]9]3]4", "1]2/22]3]9]4", "1]2/22]3]4]9"};
            dueText("insert of the fifth value at " + place, fieldOf(x, 1, 1), want[place]);
        }
    }

    private static void fieldCanBeEmpty() {
        asks("(it can be empty)");
        CountedFile x = new CountedFile();
        x.create(1);
        allDue("values of a new record", x, (f, field) -> f.values(1, field), 0, 0, 1, 2, 3);
        allRefused("subvalues", x, (f, field) -> f.subvalues(1, field, 0), NO_SUCH, 0, 1, 2, 3);
        allRefused("get", x, (f, field) -> f.get(1, field, 0, 0), NO_SUCH, 0, 1, 2, 3);
        allRefused("locate", x, (f, field) -> f.locate(1, field, 0), NONE, 0, 1, 2, 3);
        allRefused("remove", x, (f, field) -> f.remove(0, 1, field, 0, -1), NO_SUCH, 0, 1, 2, 3);
        allRefused("change", x, (f, field) -> f.change(0, 1, field, 0, 0, 0), NO_SUCH, 0, 1, 2, 3);
        CountedFile y = fileWith(1, "1^2^3^4");
        allDue("remove of the only value", y, (f, field) -> f.remove(0, 1, field, 0, -1), 0, 0, 1, 2, 3);
        allDue("remove of the only subvalue", y, (f, field) -> f.remove(0, 1, field, 0, 0), 0, 0, 1, 2, 3);
        allDue("values after it", y, (f, field) -> {
            f.remove(0, 1, field, 0, 0);
            return f.values(1, field);
        }, 0, 0, 1, 2, 3);
        allDue("insert after it", y, (f, field) -> {
            f.remove(0, 1, field, 0, 0);
            return f.insert(0, 1, field, 0, -1, 9);
        }, 1, 0, 1, 2, 3);
    }

    private static void oneToFourSubvalues() {
        asks("A value is a sequence of 1 to 4 subvalues.");
        for (int value = 0; value < 5; value++) {
            CountedFile x = fileWith(1, "1]2]3]4]5^^^");
            int v = value;
            for (int sub = 1; sub < 4; sub++) {
                due("insert of a subvalue", x.insert(0, 1, 0, v, sub, 10 * sub), sub + 1);
            }
            due("subvalues(1, 0, " + v + ")", x.subvalues(1, 0, v), 4);
            allRefused("insert of a fifth", x, (f, sub) -> f.insert(0, 1, 0, v, sub, 9), TOO_MANY, 0, 1, 2, 3, 4);
            allDue("insert into another value", x, (f, other) -> f.insert(0, 1, 0, other, 1, 9), 2, (v + 1) % 5, (v + 4) % 5);
            for (int left = 3; left >= 1; left--) {
                due("remove of a subvalue", x.remove(0, 1, 0, v, left), 5);
                due("subvalues left", x.subvalues(1, 0, v), left);
            }
            due("the first subvalue is left", x.get(1, 0, v, 0), v + 1);
            due("remove of the last one", x.remove(0, 1, 0, v, 0), 4);
            dueText("the field", fieldOf(x, 1, 0), "1]2]3]4]5".replace((v + 1) + "", "").replace("]]", "]").replaceAll("^]|]$", ""));
        }
        CountedFile full = fullRecord(7);
        due("the subvalues of a full record", full.numbers(7, 0) + full.numbers(7, 1) + full.numbers(7, 2) + full.numbers(7, 3), 80);
        for (int place = 0; place < 80; place++) {
            due("get of place " + place, full.get(7, place / 20, place / 4 % 5, place % 4), place);
        }
    }

    private static void numbersTo999() {
        asks("A subvalue is a number from -999 to 999.");
        int[] edges = {-999, -998, -1, 0, 1, 998, 999};
        CountedFile x = fileWith(1, "7^^^");
        allDue("insert of a value", x, (f, number) -> f.insert(0, 1, 0, 0, -1, number), 2, edges);
        allDue("get of the value", x, (f, number) -> {
            f.insert(0, 1, 3, 0, -1, number);
            return f.get(1, 3, 0, 0) - number;
        }, 0, edges);
        allDue("insert of a subvalue", x, (f, number) -> f.insert(0, 1, 0, 0, 1, number), 2, edges);
        allDue("get of the subvalue", x, (f, number) -> {
            f.insert(0, 1, 0, 0, 1, number);
            return f.get(1, 0, 0, 1) - number;
        }, 0, edges);
        allDue("change", x, (f, number) -> f.change(0, 1, 0, 0, 0, number), 7, edges);
        allDue("get after change", x, (f, number) -> {
            f.change(0, 1, 0, 0, 0, number);
            return f.get(1, 0, 0, 0) - number;
        }, 0, edges);
        allDue("locate", x, (f, number) -> {
            f.change(0, 1, 0, 0, 0, number);
            return f.locate(1, 0, number);
        }, 0, edges);
        allRefused("insert of a value", x, (f, number) -> f.insert(0, 1, 0, 0, -1, number), BAD_VALUE, NO_NUMBERS);
        allRefused("insert of a subvalue", x, (f, number) -> f.insert(0, 1, 0, 0, 0, number), BAD_VALUE, NO_NUMBERS);
        allRefused("change", x, (f, number) -> f.change(0, 1, 0, 0, 0, number), BAD_VALUE, NO_NUMBERS);
        allRefused("locate", x, (f, number) -> f.locate(1, 0, number), BAD_VALUE, NO_NUMBERS);
    }

    private static void placesFrom0() {
        asks("The places of values in a field, and of subvalues in a value, are counted from 0.");
        CountedFile x = fileWith(1, "10/11/12/13]20]30]40]50/51^60^^70/71");
        due("the first of all", x.get(1, 0, 0, 0), 10);
        due("the last subvalue of the first value", x.get(1, 0, 0, 3), 13);
        due("the last value", x.get(1, 0, 4, 0), 50);
        due("its last subvalue", x.get(1, 0, 4, 1), 51);
        allRefused("get of no value", x, (f, value) -> f.get(1, 0, value, 0), NO_SUCH, -1, 5, LOWEST, HIGHEST);
        allRefused("get of no value behind one", x, (f, value) -> f.get(1, 1, value, 0), NO_SUCH, -1, 1, 2, 4);
        allRefused("get of no subvalue", x, (f, sub) -> f.get(1, 0, 0, sub), NO_SUCH, -1, 4, LOWEST, HIGHEST);
        allRefused("get of no subvalue behind two", x, (f, sub) -> f.get(1, 3, 0, sub), NO_SUCH, -1, 2, 3, 4);
        allRefused("get of no subvalue behind one", x, (f, sub) -> f.get(1, 0, 1, sub), NO_SUCH, -1, 1, 2, 3, 4);
    }

    // ---- users and locks

    private static void usersFrom0To3() {
        asks("There are the users 0 to 3.");
        CountedFile x = fileWith(1, "1^2^3^4");
        type(x, "5^^^");
        CountedFile locked = x.twin();
        locked.lock(2, 1);
        for (CountedFile file : new CountedFile[] {x, locked}) {
            allRefused("delete", file, (f, user) -> f.delete(user, 1), NO_SUCH, NO_USERS);
            allRefused("lock", file, (f, user) -> f.lock(user, 1), NO_SUCH, NO_USERS);
            allRefused("unlock", file, (f, user) -> f.unlock(user, 1), NO_SUCH, NO_USERS);
            allRefused("insert", file, (f, user) -> f.insert(user, 1, 0, 0, -1, 5), NO_SUCH, NO_USERS);
            allRefused("insert of a subvalue", file, (f, user) -> f.insert(user, 1, 0, 0, 0, 5), NO_SUCH, NO_USERS);
            allRefused("change", file, (f, user) -> f.change(user, 1, 0, 0, 0, 5), NO_SUCH, NO_USERS);
            allRefused("remove", file, (f, user) -> f.remove(user, 1, 0, 0, -1), NO_SUCH, NO_USERS);
            allRefused("removeLine", file, (f, user) -> f.removeLine(user, 1, 0), NO_SUCH, NO_USERS);
            allRefused("load", file, (f, user) -> f.load(user, 1), NO_SUCH, NO_USERS);
        }
        allDue("delete", x, (f, user) -> f.delete(user, 1), 0, 0, 1, 2, 3);
        allDue("lock", x, (f, user) -> f.lock(user, 1), 1, 0, 1, 2, 3);
        allDue("insert", x, (f, user) -> f.insert(user, 1, 0, 0, -1, 5), 2, 0, 1, 2, 3);
        allDue("change", x, (f, user) -> f.change(user, 1, 0, 0, 0, 5), 1, 0, 1, 2, 3);
        allDue("remove", x, (f, user) -> f.remove(user, 1, 0, 0, -1), 0, 0, 1, 2, 3);
        allDue("removeLine", x, (f, user) -> f.removeLine(user, 1, 0), 2, 0, 1, 2, 3);
        allDue("load", x, (f, user) -> f.load(user, 1), 1, 0, 1, 2, 3);
        allDue("locker", x, (f, user) -> {
            f.lock(user, 1);
            return f.locker(1) - user;
        }, 0, 0, 1, 2, 3);
        allDue("unlock", x, (f, user) -> {
            f.lock(user, 1);
            return f.unlock(user, 1);
        }, 0, 0, 1, 2, 3);
    }

    private static void lockedByOneUser() {
        asks("A record can be locked by one user.");
        for (int owner = 0; owner < 4; owner++) {
            CountedFile x = fullFile();
            int[] others = {(owner + 1) % 4, (owner + 2) % 4, (owner + 3) % 4};
            x.lock(owner, 22);
            allRefused("lock of another's", x, (f, user) -> f.lock(user, 22), LOCKED, others);
            due("the owner", x.locker(22), owner);
            due("lock once more", x.lock(owner, 22), 1);
            allDue("lock of another record", x, (f, user) -> f.lock(user, 33), 1, others);
            for (int id = 0; id < 10; id++) {
                x.lock(owner, 11 * id);
            }
            due("all ten by one user", x.lock(owner, 0), 10);
            allRefused("lock when all are locked", x, (f, user) -> f.lock(user, 99), LOCKED, others);
            due("unlock of one of ten", x.unlock(owner, 99), 9);
            due("lock of it by another", x.lock(others[0], 99), 1);
            due("unlock of the next", x.unlock(owner, 88), 8);
        }
    }

    /** The calls that change the record 1. */
    private static List<ToIntFunction<CountedFile>> changesBy(int user) {
        return List.of(f -> f.delete(user, 1), f -> f.lock(user, 1), f -> f.insert(user, 1, 0, 0, -1, 5),
                f -> f.insert(user, 1, 0, 0, 1, 5), f -> f.change(user, 1, 0, 0, 0, 5), f -> f.remove(user, 1, 0, 0, -1),
                f -> f.remove(user, 1, 0, 0, 0), f -> f.removeLine(user, 1, 0), f -> f.load(user, 1),
                f -> f.unlock(user, 1));
    }

    private static void mayChange() {
        asks("A user may change a record if it is not locked, or locked by this user.");
        CountedFile free = fileWith(1, "1]2^3^4^5");
        free.create(2);
        free.lock(0, 2);
        type(free, "9^^^");
        for (int user = 0; user < 4; user++) {
            List<ToIntFunction<CountedFile>> changes = changesBy(user);
            for (int place = 0; place < changes.size() - 1; place++) {
                due("change " + place + " of a free record by " + user, changes.get(place).applyAsInt(free.twin()) >= 0 ? 1 : 0, 1);
            }
            for (int owner = 0; owner < 4; owner++) {
                CountedFile x = free.twin();
                x.lock(owner, 1);
                for (int place = 0; place < changes.size(); place++) {
                    String call = "change " + place + " by " + user + " of what is locked by " + owner;
                    if (user == owner) {
                        due(call, changes.get(place).applyAsInt(x.twin()) >= 0 ? 1 : 0, 1);
                    } else {
                        refused(call, x, changes.get(place), LOCKED);
                    }
                }
            }
        }
    }

    // ---- associated fields

    private static void associatedOrNot() {
        asks("Each field is associated or not (the fields 1 and 2 are at first).");
        CountedFile x = new CountedFile();
        allDue("associated", x, CountedFile::associated, 1, 1, 2);
        allDue("associated", x, CountedFile::associated, 0, 0, 3);
        for (int all = 0; all < 16; all++) {
            int count = 0;
            CountedFile y = new CountedFile();
            for (int field = 0; field < 4; field++) {
                boolean isIn = (all >> field & 1) == 1;
                count += isIn ? 1 : 0;
                y.associate(field, isIn);
            }
            for (int field = 0; field < 4; field++) {
                due("associated(" + field + ")", y.associated(field), all >> field & 1);
                due("associate of the same", y.associate(field, (all >> field & 1) == 1), count);
            }
        }
    }

    private static void linesOfAssociatedFields() {
        asks("The values with the same place in all associated fields of a record belong together: they make a line. A line has"
                + " the values of those associated fields that have a value with its place.");
        int[] lengths = {5, 1, 3, 4};
        for (int all = 0; all < 16; all++) {
            CountedFile x = fileWith(1, "1]2]3]4]5/6^1^1]2]3/4/5/6^1]2]3]4");
            int greatest = 0;
            for (int field = 0; field < 4; field++) {
                x.associate(field, (all >> field & 1) == 1);
                greatest = (all >> field & 1) == 1 ? Math.max(greatest, lengths[field]) : greatest;
            }
            due("lines with the fields " + all, x.lines(1), greatest);
            for (int place = 0; place < 6; place++) {
                int having = 0;
                CountedFile y = x.twin();
                for (int field = 0; field < 4; field++) {
                    having += (all >> field & 1) == 1 && lengths[field] > place ? 1 : 0;
                }
                int at = place;
                if (having == 0) {
                    refused("removeLine " + place, y, f -> f.removeLine(0, 1, at), NO_SUCH);
                } else {
                    due("removeLine " + place + " with the fields " + all, y.removeLine(0, 1, place), having);
                }
                for (int field = 0; field < 4; field++) {
                    int taken = (all >> field & 1) == 1 && lengths[field] > place ? 1 : 0;
                    due("values left of " + field, y.values(1, field), lengths[field] - taken);
                }
            }
            allRefused("removeLine", x, (f, place) -> f.removeLine(0, 1, place), NO_SUCH, -1, greatest, 5, LOWEST, HIGHEST);
        }
        CountedFile empty = new CountedFile();
        empty.create(1);
        due("lines of an empty record", empty.lines(1), 0);
        allRefused("removeLine of an empty record", empty, (f, place) -> f.removeLine(0, 1, place), NO_SUCH, -1, 0, 1);
    }

    // ---- columns

    private static void columnsFrom0To5() {
        asks("There are six columns, 0 to 5.");
        CountedFile x = fileWith(1, "1^2^3^4");
        allDue("column", x, (f, column) -> f.column(column, 0) >= 0 ? 1 : 0, 1, 0, 1, 2, 3, 4, 5);
        allDue("numbers", x, (f, column) -> f.numbers(1, column), 1, 0, 1, 2, 3, 4, 5);
        allDue("define", x, (f, column) -> {
            f.define(column, 2, 3, 1);
            return f.column(column, 0) * 100 + f.column(column, 1) * 10 + f.column(column, 2);
        }, 231, 0, 1, 2, 3, 4, 5);
        allRefused("define", x, (f, column) -> f.define(column, 0, 0, 0), NO_SUCH, NO_COLUMNS);
        allRefused("select", x, (f, column) -> f.select(column, 0, 0, false, 0), NO_SUCH, NO_COLUMNS);
        allRefused("column", x, (f, column) -> f.column(column, 0), NO_SUCH, NO_COLUMNS);
        allRefused("numbers", x, (f, column) -> f.numbers(1, column), NO_SUCH, NO_COLUMNS);
        allRefused("numberAt", x, (f, column) -> f.numberAt(1, column, 0), NO_SUCH, NO_COLUMNS);
        allRefused("exploded", x, CountedFile::exploded, NO_SUCH, NO_COLUMNS);
        allRefused("explodedAt", x, (f, column) -> f.explodedAt(column, false, 0, 0), NO_SUCH, NO_COLUMNS);
        allRefused("total", x, (f, column) -> f.total(column, -1), NO_SUCH, NO_COLUMNS);
        allRefused("repeated", x, CountedFile::repeated, NO_SUCH, NO_COLUMNS);
        for (int column : NO_COLUMNS) {
            dueFloat("mean(" + column + ")", x.mean(column), -2000000.0f);
        }
    }

    private static void kindsFrom0To4() {
        asks("Each has a kind (0 to 4) and two fields");
        CountedFile x = fileWith(1, "1^2^3^4");
        for (int column = 0; column < 6; column++) {
            int c = column;
            allDue("define", x, (f, kind) -> {
                f.define(c, kind, 3, 2);
                return f.define(c, 0, 0, 0) - kind;
            }, 0, 0, 1, 2, 3, 4);
            allRefused("define", x, (f, kind) -> f.define(c, kind, 0, 0), BAD_VALUE, -1, 5, LOWEST, HIGHEST);
        }
    }

    private static void secondFieldMattersForKind4() {
        asks("a second one (which matters only for the kind 4)");
        CountedFile x = fileWith(1, "1/2]3^4]5]6^^7");
        for (int kind = 0; kind < 4; kind++) {
            x.define(0, kind, 0, 0);
            String numbers = numbersOf(x, 1, 0);
            for (int second = 1; second < 4; second++) {
                x.define(0, kind, 0, second);
                due("the second field", x.column(0, 2), second);
                dueText("the numbers of kind " + kind, numbersOf(x, 1, 0), numbers);
            }
        }
        String[] want = {"1 9", "4 15", "", "7"};
        for (int second = 0; second < 4; second++) {
            x.define(0, 4, 0, second);
            dueText("the numbers of kind 4", numbersOf(x, 1, 0), want[second]);
        }
    }

    private static void dueNumbers(int kind, String fields, String want) {
        CountedFile x = fileWith(1, fields);
        x.define(5, kind, 0, 1);
        dueText("the numbers of " + fields, numbersOf(x, 1, 5), want);
        int count = want.isEmpty() ? 0 : want.split(" ").length;
        due("numbers of " + fields, x.numbers(1, 5), count);
        due("numberAt behind the end", x.numberAt(1, 5, count), NONE);
    }

    private static void kind0() {
        asks("kind 0: all subvalues of the first field, value by value");
        dueNumbers(0, "^1^2^3", "");
        dueNumbers(0, "5^1^2^3", "5");
        dueNumbers(0, "-1/2/-3/4]0]5/5]999]-999/6^^^", "-1 2 -3 4 0 5 5 999 -999 6");
        CountedFile x = fullRecord(3);
        dueText("the numbers of a full field", numbersOf(x, 3, 3), "60 61 62 63 64 65 66 67 68 69 70 71 72 73 74 75 76 77 78 79");
        due("behind a full field", x.numberAt(3, 3, 20), NONE);
    }

    private static void kind1() {
        asks("kind 1: one number: the number of values of the first field");
        dueNumbers(1, "^1]2^2^3", "0");
        dueNumbers(1, "7/8/9^^^", "1");
        dueNumbers(1, "7]8/9]1]2]3^^^", "5");
    }

    private static void kind2() {
        asks("kind 2: one number: the sum of all subvalues of the first field");
        dueNumbers(2, "^1]2^2^3", "0");
        dueNumbers(2, "-5/5^1^^", "0");
        dueNumbers(2, "-1/-2]-3]4/5/6/7]8]-999^^^", "-975");
        CountedFile x = new CountedFile();
        x.create(1);
        for (int place = 0; place < 20; place++) {
            x.insert(0, 1, 0, place / 4, place % 4 == 0 ? -1 : 1, 999);
            x.insert(0, 1, 1, place / 4, place % 4 == 0 ? -1 : 1, -999);
        }
        x.define(0, 2, 0, 0);
        x.define(1, 2, 1, 0);
        dueText("the greatest sum", numbersOf(x, 1, 0), "19980");
        dueText("the lowest sum", numbersOf(x, 1, 1), "-19980");
    }

    private static void kind3() {
        asks("kind 3: for each value of the first field, the greatest of its subvalues");
        dueNumbers(3, "^1]2^2^3", "");
        dueNumbers(3, "-999/-998]-999]0/-1]1/2/3/4]4/3/2/1^^^", "-998 -999 0 4 4");
        dueNumbers(3, "1/3/2/3]999/-999^^^", "3 999");
        dueNumbers(3, "-4/-3/-2/-1^^^", "-1");
    }

    private static void kind4() {
        asks("kind 4: for each place at which both fields have a value, the first subvalue of the value of the first field"
                + " times the first subvalue of the value of the second field");
        dueNumbers(4, "^^^", "");
        dueNumbers(4, "^1]2]3]4]5^^", "");
        dueNumbers(4, "1]2]3]4]5^^^", "");
        dueNumbers(4, "1]2]3]4]5^7^^", "7");
        dueNumbers(4, "7^1]2]3]4]5^^", "7");
        dueNumbers(4, "1/9]2/9]3/9]4/9]5/9^-1/8]-2/8]-3]-4]-5/1/2/3^^", "-1 -4 -9 -16 -25");
        dueNumbers(4, "999]-999]-999]0^999]999]-999]-1^^", "998001 -998001 998001 0");
        CountedFile x = fileWith(1, "^^^3/4]-5");
        x.define(0, 4, 3, 3);
        dueText("a field with itself", numbersOf(x, 1, 0), "9 25");
    }

    private static void columnsAtFirst() {
        asks("At first, the columns 0 to 3 have the kind 0 and the first field 0 to 3, the column 4 has the kind 1 and the"
                + " first field 0, and the column 5 has the kind 4 and the fields 1 and 2; the second field is 0 where it does"
                + " not matter.");
        int[][] want = {{0, 0, 0}, {0, 1, 0}, {0, 2, 0}, {0, 3, 0}, {1, 0, 0}, {4, 1, 2}};
        CountedFile x = new CountedFile();
        for (int column = 0; column < 6; column++) {
            for (int what = 0; what < 3; what++) {
                due("column(" + column + ", " + what + ")", x.column(column, what), want[column][what]);
            }
        }
    }

    /** Created in another order than that of the ids. */
    private static CountedFile threeRecords() {
        CountedFile x = fileWith(50, "3/-4]3^^^");
        add(x, 99, "3^^^");
        add(x, 0, "7]3/-4/3^^^");
        add(x, 20, "^1^^");
        return x;
    }

    private static void explodedListOfAllNumbers() {
        asks("The exploded list of a column consists of all numbers that the column gives for all records, each with the id of"
                + " its record and its place in the sequence of the record.");
        due("exploded of an empty file", new CountedFile().exploded(0), 0);
        dueText("a file of one empty record", explodedOf(fileWith(9, "^^^"), 0, false), "");
        dueText("its count of values", explodedOf(fileWith(9, "^^^"), 4, true), "0@9.0");
        dueText("one number", explodedOf(fileWith(99, "^-5^^"), 1, true), "-5@99.0");
        due("three records and one without numbers", threeRecords().exploded(0), 8);
        CountedFile x = fullRecord(3);
        due("exploded of a full field", x.exploded(0), 20);
        due("the last entry's number", x.explodedAt(0, false, 19, 0), 19);
        due("the last entry's place", x.explodedAt(0, false, 19, 2), 19);
        due("behind it", x.explodedAt(0, false, 20, 0), NONE);
        x.delete(0, 3);
        due("exploded after delete", x.exploded(0), 0);
        x.undo();
        due("exploded after undo", x.exploded(0), 20);
    }

    private static void ascendingOrder() {
        asks("In ascending order, it is ordered by the numbers, then by the ids, then by the places");
        dueText("ascending", explodedOf(threeRecords(), 0, false),
                "-4@0.2 -4@50.1 3@0.1 3@0.3 3@50.0 3@50.2 3@99.0 7@0.0");
    }

    private static void descendingOrder() {
        asks("in descending order, it is ordered by the numbers, the greatest first, then by the ids and by the places, both"
                + " ascending");
        dueText("descending", explodedOf(threeRecords(), 0, true),
                "7@0.0 3@0.1 3@0.3 3@50.0 3@50.2 3@99.0 -4@0.2 -4@50.1");
    }

    // ---- lists

    private static void listsFrom0To7() {
        asks("There are 8 saved lists with the names 0 to 7.");
        CountedFile x = fileWith(1, "1^^^");
        for (int list = 0; list < 8; list++) {
            CountedFile y = x.twin();
            due("select into " + list, y.select(0, 1, 1, true, list), 1);
            for (int other = 0; other < 8; other++) {
                due("listSize(" + other + ")", y.listSize(other), other == list ? 1 : 0);
                due("listAt(" + other + ", 0)", y.listAt(other, 0), other == list ? 1 : NONE);
                due("total(0, " + other + ")", y.total(0, other), other == list ? 1 : 0);
            }
            due("combine into " + list, y.combine(1, list, (list + 1) % 8, list), 1);
            due("clearList(" + list + ")", y.clearList(list), 1);
        }
        allRefused("select", x, (f, list) -> f.select(0, 1, 1, true, list), NO_SUCH, NO_LISTS);
        allRefused("combine, first", x, (f, list) -> f.combine(0, list, 0, 0), NO_SUCH, NO_LISTS);
        allRefused("combine, second", x, (f, list) -> f.combine(0, 0, list, 0), NO_SUCH, NO_LISTS);
        allRefused("combine, list", x, (f, list) -> f.combine(0, 0, 0, list), NO_SUCH, NO_LISTS);
        allRefused("clearList", x, CountedFile::clearList, NO_SUCH, NO_LISTS);
        allRefused("listSize", x, CountedFile::listSize, NO_SUCH, NO_LISTS);
        allRefused("listAt", x, (f, list) -> f.listAt(list, 0), NO_SUCH, NO_LISTS);
        allRefused("total", x, (f, list) -> f.total(0, list), NO_SUCH, -2, 8, LOWEST, HIGHEST);
    }

    private static void listsAreSets() {
        asks("A list is a set of ids (empty at first).");
        CountedFile x = new CountedFile();
        allDue("listSize", x, CountedFile::listSize, 0, 0, 1, 2, 3, 4, 5, 6, 7);
        allDue("listAt", x, (f, list) -> f.listAt(list, 0), NONE, 0, 1, 2, 3, 4, 5, 6, 7);
        add(x, 7, "5/5]5^^^");
        due("a record with the number three times", x.select(0, 1, 5, false, 0), 1);
        due("the list with itself", x.combine(1, 0, 0, 1), 1);
        due("and with another of the same id", x.combine(1, 0, 1, 2), 1);
        due("listSize", x.listSize(2), 1);
        due("listAt behind the only id", x.listAt(2, 1), NONE);
    }

    /** Ten records at a time, until the list 0 has each id from 0 to 99. */
    private static CountedFile fullList() {
        CountedFile x = new CountedFile();
        for (int tens = 9; tens >= 0; tens--) {
            for (int ones = 0; ones < 10; ones++) {
                x.create(10 * tens + ones);
            }
            x.select(4, 1, 0, true, 1);
            x.combine(1, 0, 1, 0);
            for (int ones = 0; ones < 10; ones++) {
                x.delete(0, 10 * tens + ones);
            }
        }
        return x;
    }

    private static void idsWithoutRecord() {
        asks("A list can have ids of which there is no record.");
        CountedFile x = fullList();
        due("records", x.records(), 0);
        due("listSize of all ids", x.listSize(0), 100);
        due("listSize of the last ten", x.listSize(1), 10);
        due("the lowest id", x.listAt(0, 0), 0);
        due("the highest id", x.listAt(0, 99), 99);
        due("behind it", x.listAt(0, 100), NONE);
        due("both", x.twin().combine(0, 0, 1, 2), 10);
        due("at least one", x.twin().combine(1, 1, 0, 2), 100);
        due("the first and not the second", x.twin().combine(2, 0, 1, 2), 90);
        due("total over it", x.total(4, 0), 0);
        due("select in place of it", x.twin().select(4, 1, 0, true, 0), 0);
        due("clearList", x.twin().clearList(0), 100);
        x.create(55);
        x.insert(0, 55, 0, 0, -1, 5);
        due("total with a record again", x.total(0, 0), 5);
    }

    // ---- texts

    private static void atMostNinetyCharacters() {
        asks("There is a text of at most 90 characters (empty at first)");
        CountedFile x = new CountedFile();
        due("clearText of a new object", x.twin().clearText(), 0);
        due("fault of a new object", x.fault(), 0);
        for (int length = 1; length <= 90; length++) {
            due("append", x.append('x'), length);
        }
        allRefused("append of one too many", x, CountedFile::append, TOO_MANY, 32, '0', '^', 126);
        due("clearText of a full text", x.clearText(), 90);
        due("append behind it", x.append('x'), 1);
    }

    private static void dueFault(String text, int want) {
        CountedFile x = new CountedFile();
        x.create(1);
        type(x, text);
        due("fault of " + text, x.fault(), want);
        if (want == NONE) {
            due("load of " + text, x.load(0, 1) >= 0 ? 1 : 0, 1);
            dueText("the record", textOf(x, 1), text);
        } else {
            refused("load of " + text, x, f -> f.load(0, 1), BAD_TEXT);
        }
        due("length of " + text, x.clearText(), text.length());
    }

    private static void fieldsOfATextCanBeEmpty() {
        asks("text = field \"^\" field \"^\" field \"^\" field; field = \"\" | value { \"]\" value }");
        dueFault("^^^", NONE);
        dueFault("1^^^", NONE);
        dueFault("^1^^", NONE);
        dueFault("^^1^", NONE);
        dueFault("^^^1", NONE);
        dueFault("1^2^3^4", NONE);
        dueFault("^^^^", 3);
        dueFault("1^2^3^4^", 7);
        dueFault("1]^^^", 2);
        dueFault("]1^^^", 0);
        dueFault("^]", 1);
        dueFault("1/^^^", 2);
        dueFault("/1^^^", 0);
        dueFault("1]/2^^^", 2);
        dueFault("1/]2^^^", 2);
    }

    private static void fiveValuesAndFourNumbers() {
        asks("A field has at most 5 values, and a value at most 4 numbers.");
        for (int field = 0; field < 4; field++) {
            String before = "^".repeat(field);
            String behind = "^".repeat(3 - field);
            dueFault(before + "1]2]3]4]5" + behind, NONE);
            dueFault(before + "1]2]3]4]5]6" + behind, field + 9);
            dueFault(before + "1]2]3]4]5]" + behind, field + 9);
            dueFault(before + "1/2/3/4" + behind, NONE);
            dueFault(before + "1/2/3/4/5" + behind, field + 7);
            dueFault(before + "1/2/3/4/" + behind, field + 7);
            dueFault(before + "1]2]3]4]5/6/7/8" + behind, NONE);
            dueFault(before + "1]2]3]4]5/6/7/8/9" + behind, field + 15);
            dueFault(before + "1/2/3/4]5/6/7/8]9/0/1/2]3/4/5/6]7/8/9/0" + behind, NONE);
            dueFault(before + "1/2/3/4]5/6/7/8]9/0/1/2]3/4/5/6]7/8/9/0]1" + behind, field + 39);
        }
        dueFault("1]2]3]4]5^1]2]3]4]5^1]2]3]4]5^1]2]3]4]5", NONE);
        dueFault("1/2/3/4^1/2/3/4^1/2/3/4^1/2/3/4", NONE);
    }

    private static void numbersOfATextTo999() {
        asks("A number is from -999 to 999");
        dueFault("999^^^", NONE);
        dueFault("-999^^^", NONE);
        dueFault("1000^^^", 3);
        dueFault("-1000^^^", 4);
        dueFault("9990^^^", 3);
        dueFault("^^^999", NONE);
        dueFault("^^^9999", 6);
        dueFault("1/2]3/1000^^^", 9);
    }

    private static void minusAndZeros() {
        asks("it can begin with \"-\", and has no leading zeros; \"-0\" is not a number");
        dueFault("0^^^", NONE);
        dueFault("-1^^^", NONE);
        dueFault("-10^^^", NONE);
        dueFault("100/10/0^^^", NONE);
        dueFault("-0^^^", 1);
        dueFault("-01^^^", 1);
        dueFault("00^^^", 1);
        dueFault("01^^^", 1);
        dueFault("0-^^^", 1);
        dueFault("1-1^^^", 1);
        dueFault("--1^^^", 1);
        dueFault("-^^^", 1);
        dueFault("-/1^^^", 1);
        dueFault("5/-0^^^", 3);
        dueFault("5]00^^^", 3);
    }

    private static void firstFaultyCharacter() {
        asks("The fault of the text is the index of the first character such that no text begins with the characters up to and"
                + " including it");
        dueFault(" ^^^", 0);
        dueFault("^ ^^", 1);
        dueFault("^^^ ", 3);
        dueFault("x^y^^z", 0);
        dueFault("1x/y", 1);
        dueFault("^^^1x", 4);
        String full = "1".repeat(3) + "x".repeat(87);
        dueFault(full, 3);
        dueFault(("^^^-999/-999/-999/-999]-999/-999/-999/-999]-999/-999/-999/-999]-999/-999/-999/-999]-999/1").substring(0, 89) + "x", 89);
        for (char sign = 32; sign < 127; sign++) {
            boolean isUsed = "0123456789-^".indexOf(sign) >= 0;
            dueFault("" + sign, isUsed ? 1 : 0);
        }
    }

    private static void howeverLong() {
        asks("(however long such a text is)");
        String value = "-999/-999/-999/-999";
        String field = value + "]" + value + "]" + value + "]" + value + "]" + value;
        dueFault(field.substring(0, 87), 87);
        dueFault(field.substring(0, 88), 88);
        dueFault(field.substring(0, 89), 89);
        dueFault(field.substring(0, 90), 90);
        dueFault(field.substring(0, 79) + "]1/2/3/4x", 87);
        dueFault("^^" + field.substring(0, 88), 90);
        dueFault("^^^" + field.substring(0, 87), NONE);
    }

    private static void notComplete() {
        asks("If there is no such character but the text is not complete (as the empty text), the fault is the length of the"
                + " text.");
        dueFault("", 0);
        dueFault("^", 1);
        dueFault("^^", 2);
        dueFault("^^^-", 4);
        dueFault("^^^1/", 5);
        dueFault("^^^1]", 5);
        dueFault("1^2^3", 5);
        String whole = "-999/0]10^^1]2/3/4/5^-7";
        for (int length = 0; length <= whole.length(); length++) {
            String begin = whole.substring(0, length);
            boolean isComplete = length == 22 - 1 || length == 23;
            dueFault(begin, isComplete ? NONE : length);
        }
    }

    private static void printedInTheSameForm() {
        asks("A record can be printed in the same form.");
        String[] texts = {"^^^", "0^^^", "^^^-999", "-1/-10/-100/999]0^^7]8]9^10/100", "1]2]3]4]5^^^1/2/3/4"};
        for (String text : texts) {
            CountedFile x = fileWith(1, text);
            due("print of " + text, x.print(1), text.length());
            dueText("the printed text", printedOf(x), text);
        }
    }

    private static void printedBeyondNinety() {
        asks("The printed text of a record can be longer than 90 characters.");
        CountedFile x = fullRecord(0);
        int length = 10 + 2 * 70 + 79;
        due("print", x.print(0), length);
        due("printed(89)", x.printed(89) >= 32 ? 1 : 0, 1);
        due("printed(90)", x.printed(90) >= 32 ? 1 : 0, 1);
        due("the last one", x.printed(length - 1), '9');
        due("behind the last one", x.printed(length), NONE);
        CountedFile y = fileWith(1, "-999/-999/-999/-999]-999/-999/-999/-999]-999/-999/-999/-999]-999/-999/-999/-999]-99/1/2^^^");
        due("print of ninety", y.print(1), 90);
        y.insert(0, 1, 3, 0, -1, 4);
        due("print of ninety-one", y.print(1), 91);
        due("the last one", y.printed(90), '4');
        due("behind the last one", y.printed(91), NONE);
    }

    // ---- actions and history

    /** Each of the fourteen actions, on the file that ready() makes; none of them returns an error code. */
    private static List<ToIntFunction<CountedFile>> actions() {
        return List.of(f -> f.create(5), f -> f.delete(0, 1), f -> f.lock(0, 1), f -> f.unlock(3, 2),
                f -> f.insert(0, 1, 0, 0, -1, 9), f -> f.insert(0, 1, 0, 0, 1, 9), f -> f.change(0, 1, 0, 0, 0, 9),
                f -> f.remove(0, 1, 0, 0, 0), f -> f.remove(0, 1, 1, 0, -1), f -> f.removeLine(0, 1, 0), f -> f.load(0, 1),
                f -> f.associate(0, true), f -> f.define(0, 1, 2, 3), f -> f.select(4, 2, 0, false, 2),
                f -> f.combine(1, 1, 1, 3), f -> f.clearList(1));
    }

    /** A record to change, a locked one, a list, a text, and a history of as many states as that. */
    private static CountedFile ready(int states) {
        CountedFile x = fileWith(1, "1/2]3^4^5^");
        x.create(2);
        x.lock(3, 2);
        x.select(4, 2, 0, true, 1);
        type(x, "^7^8^");
        for (int time = 0; time < 4; time++) {
            x.clearList(7);
        }
        while (statesOf(x) > states) {
            x.undo();
        }
        return x;
    }

    private static void whatTheStateIs() {
        asks("The state consists of the records with their locks, the associated fields, the columns and the saved lists.");
        for (int states = 0; states <= 4; states++) {
            CountedFile x = ready(states);
            due("states before", statesOf(x), states);
            List<ToIntFunction<CountedFile>> actions = actions();
            for (int place = 0; place < actions.size(); place++) {
                CountedFile y = x.twin();
                due("action " + place + " is no error", actions.get(place).applyAsInt(y) >= 0 ? 1 : 0, 1);
                due("action " + place + " changes the state", stateOf(y).equals(stateOf(x)) ? 0 : 1, 1);
                due("undo of action " + place, y.undo(), Math.min(states, 3));
                dueText("the state after undo of action " + place, stateOf(y), stateOf(x));
            }
        }
    }

    /** Each part of the state, by itself, is as it was after an undo. */
    private static void allOfTheStateIsRestored() {
        asks("The state consists of the records with their locks, the associated fields, the columns and the saved lists.");
        CountedFile x = fileWith(0, "1^2^3^4");
        add(x, 99, "5]6^7^8^9/10");
        for (int field = 0; field < 4; field++) {
            int fi = field;
            boolean isIn = x.associated(field) == 1;
            dueRestored("associate " + field, x, f -> f.associate(fi, !isIn));
            dueRestored("insert into " + field, x, f -> f.insert(0, 99, fi, 1, -1, 99));
            dueRestored("insert of a subvalue into " + field, x, f -> f.insert(0, 0, fi, 0, 1, 99));
            dueRestored("change of " + field, x, f -> f.change(0, 99, fi, 0, 0, 99));
            dueRestored("remove from " + field, x, f -> f.remove(0, 0, fi, 0, 0));
        }
        for (int column = 0; column < 6; column++) {
            int c = column;
            dueRestored("define of the kind of " + column, x, f -> f.define(c, 3, f.column(c, 1), f.column(c, 2)));
            dueRestored("define of the first field of " + column, x, f -> f.define(c, f.column(c, 0), 3 - f.column(c, 1), f.column(c, 2)));
            dueRestored("define of the second field of " + column, x, f -> f.define(c, f.column(c, 0), f.column(c, 1), 3));
        }
        for (int user = 0; user < 4; user++) {
            int u = user;
            dueRestored("lock by " + user, x, f -> f.lock(u, 99));
            CountedFile locked = x.twin();
            locked.lock(user, 99);
            dueRestored("unlock by " + user, locked, f -> f.unlock(u, 99));
            dueRestored("delete by " + user, locked, f -> f.delete(u, 99));
        }
        for (int list = 0; list < 8; list++) {
            int l = list;
            dueRestored("select into " + list, x, f -> f.select(4, 2, 0, true, l));
            CountedFile listed = x.twin();
            listed.select(4, 2, 0, true, list);
            dueRestored("clearList of " + list, listed, f -> f.clearList(l));
            dueRestored("combine into " + list, listed, f -> f.combine(2, l, l, l));
        }
    }

    private static void dueRestored(String call, CountedFile x, ToIntFunction<CountedFile> action) {
        CountedFile y = x.twin();
        String before = stateOf(y);
        due(call + " is no error", action.applyAsInt(y) >= 0 ? 1 : 0, 1);
        due(call + " changes the state", stateOf(y).equals(before) ? 0 : 1, 1);
        due("undo of " + call, y.undo() >= 0 ? 1 : 0, 1);
        dueText("the state after undo of " + call, stateOf(y), before);
    }

    private static void recordedEvenIfNothingChanges() {
        asks("Each action that returns no error code records the state before it in the history, even if the action changes"
                + " nothing.");
        List<ToIntFunction<CountedFile>> idle = List.of(f -> f.lock(3, 2), f -> f.change(0, 1, 0, 0, 0, 1),
                f -> f.load(0, 2), f -> f.load(3, 2), f -> f.associate(1, true), f -> f.associate(0, false),
                f -> f.define(5, 4, 1, 2), f -> f.select(4, 2, 0, true, 1), f -> f.select(0, 1, 555, false, 0),
                f -> f.combine(0, 1, 1, 1), f -> f.combine(1, 1, 0, 1), f -> f.combine(2, 0, 1, 0), f -> f.clearList(0));
        CountedFile x = ready(2);
        type(x, "^^^");
        for (int place = 0; place < idle.size(); place++) {
            CountedFile y = x.twin();
            boolean isError = idle.get(place).applyAsInt(y) < 0;
            due("call " + place + " changes nothing", stateOf(y).equals(stateOf(x)) ? 1 : 0, 1);
            due("states after call " + place, statesOf(y), isError ? 2 : 3);
            due("whether call " + place + " is an error", isError ? 1 : 0, place == 2 ? 1 : 0);
        }
    }

    private static void onlyActionsAreRecorded() {
        asks("The actions are create, delete, lock, unlock, insert, change, remove, removeLine, load, associate, define, select,"
                + " combine and clearList.");
        for (int states = 0; states <= 4; states++) {
            List<ToIntFunction<CountedFile>> actions = actions();
            for (int place = 0; place < actions.size(); place++) {
                CountedFile x = ready(states);
                actions.get(place).applyAsInt(x);
                due("states after action " + place, statesOf(x), Math.min(states + 1, 4));
            }
            List<ToIntFunction<CountedFile>> others = List.of(f -> f.append('1'), CountedFile::clearText, CountedFile::fault,
                    f -> f.print(1), f -> f.printed(0), CountedFile::records, f -> f.recordAt(0), f -> f.locker(2),
                    f -> f.values(1, 0), f -> f.subvalues(1, 0, 0), f -> f.get(1, 0, 0, 0), f -> f.lines(1),
                    f -> f.locate(1, 0, 1), f -> f.column(5, 1), f -> f.associated(1), f -> f.listSize(1),
                    f -> f.listAt(1, 0), f -> f.numbers(1, 0), f -> f.numberAt(1, 0, 0), f -> f.exploded(0),
                    f -> f.explodedAt(0, true, 0, 0), f -> f.total(0, -1), f -> (int) f.mean(0), f -> f.repeated(0));
            CountedFile x = ready(states);
            String before = historyOf(x) + stateOf(x);
            for (ToIntFunction<CountedFile> other : others) {
                due("another call answers", other.applyAsInt(x) >= 0 ? 1 : 0, 1);
                dueText("and records nothing", historyOf(x) + stateOf(x), before);
            }
        }
    }

    private static void viewsChangeNothing() {
        asks("what there is; these methods change nothing");
        CountedFile x = ready(4);
        x.print(1);
        refused("records", x, CountedFile::records, 2);
        refused("recordAt", x, f -> f.recordAt(1), 2);
        refused("locker", x, f -> f.locker(2), 3);
        refused("values", x, f -> f.values(1, 0), 2);
        refused("subvalues", x, f -> f.subvalues(1, 0, 0), 2);
        refused("get", x, f -> f.get(1, 0, 0, 1), 2);
        refused("lines", x, f -> f.lines(1), 1);
        refused("locate", x, f -> f.locate(1, 0, 3), 10);
        refused("column", x, f -> f.column(5, 2), 2);
        refused("associated", x, f -> f.associated(1), 1);
        refused("listSize", x, f -> f.listSize(1), 1);
        refused("listAt", x, f -> f.listAt(1, 0), 1);
        asks("computed; these methods change nothing");
        for (int column = 0; column < 6; column++) {
            int c = column;
            int numbers = new int[] {3, 1, 1, 0, 1, 1}[c];
            refused("numbers", x, f -> f.numbers(1, c), numbers);
            refused("numberAt", x, f -> f.numberAt(1, c, 3), NONE);
            refused("exploded", x, f -> f.exploded(c), c == 4 ? 2 : numbers);
            refused("explodedAt", x, f -> f.explodedAt(c, true, 3, 0), NONE);
            refused("total", x, f -> f.total(c, -1), new int[] {6, 4, 5, 0, 2, 20}[c]);
            refused("mean", x, f -> (int) (f.mean(c) * 10), new int[] {20, 40, 50, 0, 10, 200}[c]);
            refused("repeated", x, f -> f.repeated(c), 0);
        }
        asks("fault and printed change nothing");
        refused("fault", x, CountedFile::fault, NONE);
        refused("printed", x, f -> f.printed(0), '1');
    }

    private static void errorsAreNotRecorded() {
        asks("A method that returns an error code changes nothing.");
        for (int states = 0; states <= 4; states++) {
            CountedFile x = ready(states);
            x.print(1);
            refused("create of one that is there", x, f -> f.create(1), NOT_POSSIBLE);
            refused("delete of a locked one", x, f -> f.delete(0, 2), LOCKED);
            refused("lock of a locked one", x, f -> f.lock(0, 2), LOCKED);
            refused("unlock of a free one", x, f -> f.unlock(0, 1), NOT_POSSIBLE);
            refused("insert with a bad number", x, f -> f.insert(0, 1, 0, 0, -1, 1000), BAD_VALUE);
            refused("change of no subvalue", x, f -> f.change(0, 1, 0, 0, 2, 1), NO_SUCH);
            refused("remove of no value", x, f -> f.remove(0, 1, 3, 0, -1), NO_SUCH);
            refused("removeLine of no line", x, f -> f.removeLine(0, 1, 1), NO_SUCH);
            refused("load of no record", x, f -> f.load(0, 3), NO_SUCH);
            refused("load into a locked one", x, f -> f.load(0, 2), LOCKED);
            refused("associate of no field", x, f -> f.associate(4, true), NO_SUCH);
            refused("define of no kind", x, f -> f.define(0, 5, 1, 1), BAD_VALUE);
            refused("select by no test", x, f -> f.select(0, 3, 0, false, 1), BAD_VALUE);
            refused("combine in no way", x, f -> f.combine(3, 0, 0, 1), BAD_VALUE);
            refused("clearList of no list", x, f -> f.clearList(8), NO_SUCH);
            refused("append of no character", x, f -> f.append(31), BAD_VALUE);
            refused("print of no record", x, f -> f.print(3), NO_SUCH);
            type(x, "^^^^");
            refused("load of a faulty text", x, f -> f.load(0, 1), BAD_TEXT);
            type(x, "7".repeat(90));
            refused("append to a full text", x, f -> f.append('1'), TOO_MANY);
            refused("load of a full text", x, f -> f.load(0, 1), BAD_TEXT);
        }
    }

    private static void atMostFourStates() {
        asks("The history holds at most 4 states; when a fifth state is recorded, the oldest one is dropped.");
        List<ToIntFunction<CountedFile>> actions = actions();
        for (int place = 0; place < actions.size(); place++) {
            CountedFile x = ready(4);
            List<String> states = new ArrayList<>();
            CountedFile twin = x.twin();
            for (int time = 0; time < 3; time++) {
                states.add(stateOf(twin));
                twin.undo();
            }
            states.add(stateOf(twin));
            due("action " + place, actions.get(place).applyAsInt(x) >= 0 ? 1 : 0, 1);
            for (int left = 3; left >= 0; left--) {
                due("undo to " + left, x.undo(), left);
                dueText("the state", stateOf(x), states.get(3 - left));
            }
            due("undo of the dropped one", x.undo(), NONE);
        }
        CountedFile x = new CountedFile();
        for (int id = 0; id < 9; id++) {
            due("create", x.create(id), id + 1);
            due("states", statesOf(x), Math.min(id + 1, 4));
        }
        for (int left = 3; left >= 0; left--) {
            due("undo", x.undo(), left);
            due("records", x.records(), left + 5);
        }
        due("undo of nothing", x.undo(), NONE);
        due("records", x.records(), 5);
    }

    private static void textsAreNoPartOfTheState() {
        asks("The text, the printed text and the history are not part of the state.");
        CountedFile x = new CountedFile();
        x.create(1);
        type(x, "1^^^");
        x.load(0, 1);
        x.print(1);
        type(x, "^^2^");
        x.load(0, 1);
        x.print(1);
        type(x, "^^^3");
        due("undo", x.undo(), 2);
        dueText("the record", textOf(x, 1), "1^^^");
        dueText("the printed text", printedOf(x), "^^2^");
        due("load of the text", x.load(0, 1), 1);
        dueText("the record", textOf(x, 1), "^^^3");
        x.undo();
        x.undo();
        x.undo();
        due("records", x.records(), 0);
        dueText("the printed text", printedOf(x), "^^2^");
        due("the text", x.clearText(), 4);
    }

    private static void historyIsNoPartOfTheState() {
        asks("the history [is] not part of the state");
        CountedFile x = new CountedFile();
        x.create(1);
        x.create(2);
        x.create(3);
        due("undo", x.undo(), 2);
        due("undo once more", x.undo(), 1);
        due("records", x.records(), 1);
        x.create(4);
        due("undo of what came behind", x.undo(), 1);
        due("undo of the first", x.undo(), 0);
        due("records", x.records(), 0);
    }

    // ---- errors

    private static void errorsInTheirOrder() {
        asks("The error codes of a method are listed in the order in which they are checked, and the first one that applies is"
                + " returned.");
        CountedFile x = fullFile();
        refused("create: range ahead of room", x, f -> f.create(100), BAD_VALUE);
        refused("create: the same ahead of room", x, f -> f.create(99), NOT_POSSIBLE);
        x.insert(0, 0, 1, 0, -1, 1);
        for (int value = 0; value < 5; value++) {
            x.insert(0, 0, 0, value, -1, 1);
            x.insert(0, 0, 0, value, 1, 1);
            x.insert(0, 0, 0, value, 2, 1);
            x.insert(0, 0, 0, value, 3, 1);
        }
        refused("insert: number ahead of room", x, f -> f.insert(1, 0, 0, 0, -1, 1000), BAD_VALUE);
        refused("insert: number ahead of room in a value", x, f -> f.insert(1, 0, 0, 0, 0, 1000), BAD_VALUE);
        refused("insert: place ahead of number and room", x, f -> f.insert(1, 0, 0, 6, -1, 1000), NO_SUCH);
        refused("insert: place ahead of room in a value", x, f -> f.insert(1, 0, 0, 0, 5, 1), NO_SUCH);
        x.lock(0, 0);
        refused("delete: user ahead of lock", x, f -> f.delete(4, 0), NO_SUCH);
        refused("lock: user ahead of lock", x, f -> f.lock(4, 0), NO_SUCH);
        refused("unlock: user ahead of lock", x, f -> f.unlock(4, 0), NO_SUCH);
        refused("unlock: user ahead of the present state", x, f -> f.unlock(4, 11), NO_SUCH);
        refused("insert: place ahead of lock", x, f -> f.insert(1, 0, 1, 2, -1, 1), NO_SUCH);
        refused("insert: number ahead of lock", x, f -> f.insert(1, 0, 1, 0, -1, 1000), BAD_VALUE);
        refused("insert: lock ahead of room", x, f -> f.insert(1, 0, 0, 0, -1, 1), LOCKED);
        refused("insert: lock ahead of room in a value", x, f -> f.insert(1, 0, 0, 0, 0, 1), LOCKED);
        refused("change: subvalue ahead of number and lock", x, f -> f.change(1, 0, 1, 0, 1, 1000), NO_SUCH);
        refused("change: number ahead of lock", x, f -> f.change(1, 0, 1, 0, 0, 1000), BAD_VALUE);
        refused("remove: value ahead of lock", x, f -> f.remove(1, 0, 1, 1, -1), NO_SUCH);
        refused("removeLine: line ahead of lock", x, f -> f.removeLine(1, 0, 1), NO_SUCH);
        refused("load: user ahead of text and lock", x, f -> f.load(4, 0), NO_SUCH);
        refused("load: text ahead of lock", x, f -> f.load(1, 0), BAD_TEXT);
        refused("define: column ahead of kind", x, f -> f.define(6, 5, 0, 0), NO_SUCH);
        refused("define: first field ahead of kind", x, f -> f.define(0, 5, 4, 0), NO_SUCH);
        refused("define: second field ahead of kind", x, f -> f.define(0, 5, 0, 4), NO_SUCH);
        refused("select: column ahead of test", x, f -> f.select(6, 3, 0, false, 0), NO_SUCH);
        refused("select: list ahead of number", x, f -> f.select(0, 0, 1000001, false, 8), NO_SUCH);
        refused("combine: list ahead of how", x, f -> f.combine(3, 0, 0, 8), NO_SUCH);
        refused("locate: record ahead of number", x, f -> f.locate(1, 0, 1000), NO_SUCH);
        refused("locate: field ahead of number", x, f -> f.locate(0, 4, 1000), NO_SUCH);
        refused("column: column ahead of what", x, f -> f.column(6, 3), NO_SUCH);
        refused("listAt: list ahead of place", x, f -> f.listAt(8, -1), NO_SUCH);
        refused("numberAt: record ahead of place", x, f -> f.numberAt(1, 0, -1), NO_SUCH);
        refused("numberAt: column ahead of place", x, f -> f.numberAt(0, 6, -1), NO_SUCH);
        refused("explodedAt: column ahead of index", x, f -> f.explodedAt(6, false, -1, 0), NO_SUCH);
        refused("explodedAt: part ahead of the end", x, f -> f.explodedAt(0, false, 20, 3), BAD_VALUE);
        type(x, "1".repeat(90));
        refused("append: range ahead of room", x, f -> f.append(127), BAD_VALUE);
    }

    private static void constants() {
        asks("The constants");
        due("NO_SUCH", MultiValueFile.NO_SUCH, -1000001);
        due("BAD_VALUE", MultiValueFile.BAD_VALUE, -1000002);
        due("BAD_TEXT", MultiValueFile.BAD_TEXT, -1000003);
        due("TOO_MANY", MultiValueFile.TOO_MANY, -1000004);
        due("NOT_POSSIBLE", MultiValueFile.NOT_POSSIBLE, -1000005);
        due("LOCKED", MultiValueFile.LOCKED, -1000006);
        due("NONE", MultiValueFile.NONE, -1000007);
    }

    private static void noneIsNoError() {
        asks("NONE is not an error code.");
        CountedFile x = new CountedFile();
        refused("undo of nothing", x, CountedFile::undo, NONE);
        refused("recordAt behind the end", x, f -> f.recordAt(0), NONE);
        refused("listAt behind the end", x, f -> f.listAt(0, 0), NONE);
        refused("explodedAt behind the end", x, f -> f.explodedAt(0, false, 0, 0), NONE);
        refused("printed behind the end", x, f -> f.printed(0), NONE);
        x.create(1);
        refused("locker of a free record", x, f -> f.locker(1), NONE);
        refused("numberAt behind the end", x, f -> f.numberAt(1, 0, 0), NONE);
        refused("locate of none", x, f -> f.locate(1, 0, 0), NONE);
        type(x, "^^^");
        refused("fault of a right text", x, CountedFile::fault, NONE);
    }

    private static void noSuchRecord() {
        asks("\"No such record\" means that no record has this id.");
        CountedFile x = fileWith(5, "1^1^1^1");
        type(x, "2^^^");
        int[] ids = {0, 4, 6, 99, -1, 100, 105, NONE, LOWEST, HIGHEST};
        allRefused("delete", x, (f, id) -> f.delete(0, id), NO_SUCH, ids);
        allRefused("lock", x, (f, id) -> f.lock(0, id), NO_SUCH, ids);
        allRefused("unlock", x, (f, id) -> f.unlock(0, id), NO_SUCH, ids);
        allRefused("insert", x, (f, id) -> f.insert(0, id, 0, 0, -1, 1), NO_SUCH, ids);
        allRefused("change", x, (f, id) -> f.change(0, id, 0, 0, 0, 1), NO_SUCH, ids);
        allRefused("remove", x, (f, id) -> f.remove(0, id, 0, 0, -1), NO_SUCH, ids);
        allRefused("removeLine", x, (f, id) -> f.removeLine(0, id, 0), NO_SUCH, ids);
        allRefused("load", x, (f, id) -> f.load(0, id), NO_SUCH, ids);
        allRefused("print", x, CountedFile::print, NO_SUCH, ids);
        allRefused("locker", x, CountedFile::locker, NO_SUCH, ids);
        allRefused("values", x, (f, id) -> f.values(id, 0), NO_SUCH, ids);
        allRefused("subvalues", x, (f, id) -> f.subvalues(id, 0, 0), NO_SUCH, ids);
        allRefused("get", x, (f, id) -> f.get(id, 0, 0, 0), NO_SUCH, ids);
        allRefused("lines", x, CountedFile::lines, NO_SUCH, ids);
        allRefused("locate", x, (f, id) -> f.locate(id, 0, 1), NO_SUCH, ids);
        allRefused("numbers", x, (f, id) -> f.numbers(id, 0), NO_SUCH, ids);
        allRefused("numberAt", x, (f, id) -> f.numberAt(id, 0, 0), NO_SUCH, ids);
        x.delete(0, 5);
        allRefused("values of a deleted one", x, (f, id) -> f.values(id, 0), NO_SUCH, 5);
        allRefused("load of a deleted one", x, (f, id) -> f.load(0, id), NO_SUCH, 5);
    }
}
