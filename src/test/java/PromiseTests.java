import java.util.function.ToIntFunction;

/** For each promise: ordinary calls, the edges that the document names, and wrong arguments. */
public final class PromiseTests extends Checks {
    public static void main(String[] args) {
        newObject();
        create();
        delete();
        lock();
        unlock();
        insertValues();
        insertSubvalues();
        insertRefusals();
        change();
        remove();
        removeFromFullFields();
        removeLine();
        load();
        associate();
        define();
        select();
        combine();
        clearList();
        append();
        clearText();
        fault();
        print();
        printed();
        undo();
        undoRestoresEverything();
        undoKeepsTexts();
        everyActionIsRecorded();
        noOtherCallIsRecorded();
        records();
        recordAt();
        locker();
        values();
        subvalues();
        get();
        lines();
        locate();
        column();
        associated();
        listSize();
        listAt();
        numbers();
        numberAt();
        exploded();
        explodedAt();
        total();
        mean();
        repeated();
        finish();
    }

    // ---- promise 1

    private static void newObject() {
        asks("promise 1");
        CountedFile x = new CountedFile();
        due("records", x.records(), 0);
        due("fault", x.fault(), 0);
        due("clearText", x.clearText(), 0);
        due("printed(0)", x.printed(0), NONE);
        due("undo", x.undo(), NONE);
        dueText("state", stateOf(x), " a0 a1 a1 a0 c000 c010 c020 c030 c100 c412 l() l() l() l() l() l() l() l()");
        CountedFile other = new CountedFile();
        x.create(5);
        due("records of another object", other.records(), 0);
    }

    // ---- records and locks

    private static void create() {
        asks("promise 2");
        CountedFile x = new CountedFile();
        due("create(99)", x.create(99), 1);
        due("create(0)", x.create(0), 2);
        due("create(50)", x.create(50), 3);
        dueText("a new record", textOf(x, 50), "^^^");
        due("a new record's lock", x.locker(50), NONE);
        refused("create(-1)", x, f -> f.create(-1), BAD_VALUE);
        refused("create(100)", x, f -> f.create(100), BAD_VALUE);
        refused("create(lowest)", x, f -> f.create(LOWEST), BAD_VALUE);
        refused("create(0) again", x, f -> f.create(0), NOT_POSSIBLE);
        due("states in the history", statesOf(x), 3);
        fullFile();
        createsAfterDelete();
    }

    private static void fullFile() {
        CountedFile x = new CountedFile();
        for (int id = 9; id >= 0; id--) {
            due("create of a file of ten", x.create(id), 10 - id);
        }
        refused("create of the eleventh", x, f -> f.create(10), TOO_MANY);
        refused("create of one that is there in a full file", x, f -> f.create(3), NOT_POSSIBLE);
        refused("create out of range in a full file", x, f -> f.create(100), BAD_VALUE);
        due("delete", x.delete(0, 4), 9);
        due("create after a delete", x.create(10), 10);
        due("the highest id", x.recordAt(9), 10);
    }

    private static void createsAfterDelete() {
        CountedFile x = fileWith(7, "1]2/3^4^5^6");
        x.lock(1, 7);
        x.delete(1, 7);
        x.create(7);
        dueText("a record that is created anew", textOf(x, 7), "^^^");
        due("its lock", x.locker(7), NONE);
    }

    private static void delete() {
        asks("promise 3");
        CountedFile x = fileWith(4, "1^^^");
        add(x, 2, "2^^^");
        add(x, 6, "3^^^");
        x.select(0, 2, 0, false, 1);
        refused("delete of no user", x, f -> f.delete(4, 4), NO_SUCH);
        refused("delete of no user below", x, f -> f.delete(-1, 4), NO_SUCH);
        refused("delete of no record", x, f -> f.delete(0, 5), NO_SUCH);
        refused("delete of no id", x, f -> f.delete(0, -1), NO_SUCH);
        x.lock(1, 4);
        refused("delete of a locked record", x, f -> f.delete(0, 4), LOCKED);
        refused("delete of no user with a locked record", x, f -> f.delete(4, 4), NO_SUCH);
        due("delete by its user", x.delete(1, 4), 2);
        due("its values", x.values(4, 0), NO_SUCH);
        dueText("the saved list", listOf(x, 1), "2 4 6");
        dueText("the record before", textOf(x, 2), "2^^^");
        dueText("the record behind", textOf(x, 6), "3^^^");
        due("delete of an unlocked one", x.delete(3, 2), 1);
        due("delete of the last one", x.delete(0, 6), 0);
        refused("delete twice", x, f -> f.delete(0, 6), NO_SUCH);
    }

    private static void lock() {
        asks("promise 4");
        CountedFile x = new CountedFile();
        x.create(1);
        x.create(2);
        x.create(3);
        due("lock(0, 1)", x.lock(0, 1), 1);
        due("lock(0, 2)", x.lock(0, 2), 2);
        due("lock(3, 3)", x.lock(3, 3), 1);
        due("lock(0, 1) again", x.lock(0, 1), 2);
        due("locker(1)", x.locker(1), 0);
        due("locker(3)", x.locker(3), 3);
        refused("lock of another's", x, f -> f.lock(1, 1), LOCKED);
        refused("lock of no user", x, f -> f.lock(4, 1), NO_SUCH);
        refused("lock of no user below", x, f -> f.lock(-1, 1), NO_SUCH);
        refused("lock of no record", x, f -> f.lock(0, 4), NO_SUCH);
        refused("lock of no user NONE", x, f -> f.lock(NONE, 1), NO_SUCH);
        x.delete(3, 3);
        due("the lock of another is taken back", x.unlock(0, 2), 1);
        due("lock after a locked record was deleted", x.lock(3, 2), 1);
    }

    private static void unlock() {
        asks("promise 5");
        CountedFile x = new CountedFile();
        x.create(1);
        x.create(2);
        x.lock(2, 1);
        x.lock(2, 2);
        refused("unlock of another's", x, f -> f.unlock(1, 1), LOCKED);
        refused("unlock of no user", x, f -> f.unlock(4, 1), NO_SUCH);
        refused("unlock of no user below", x, f -> f.unlock(-1, 1), NO_SUCH);
        refused("unlock of no record", x, f -> f.unlock(2, 3), NO_SUCH);
        due("unlock(2, 1)", x.unlock(2, 1), 1);
        due("locker(1)", x.locker(1), NONE);
        refused("unlock of an unlocked one", x, f -> f.unlock(2, 1), NOT_POSSIBLE);
        refused("unlock of an unlocked one by another", x, f -> f.unlock(0, 1), NOT_POSSIBLE);
        due("unlock(2, 2)", x.unlock(2, 2), 0);
        due("lock by another afterwards", x.lock(0, 2), 1);
    }

    // ---- changes of records

    private static void insertValues() {
        asks("promise 6");
        CountedFile x = new CountedFile();
        x.create(1);
        due("insert of the first value", x.insert(0, 1, 3, 0, -1, -999), 1);
        due("insert at the end", x.insert(0, 1, 3, 1, -1, 999), 2);
        due("insert at the front", x.insert(0, 1, 3, 0, -1, 0), 3);
        due("insert in the middle", x.insert(0, 1, 3, 1, -1, 7), 4);
        due("insert of a subvalue", x.insert(0, 1, 3, 1, 1, 8), 2);
        due("insert before a value with subvalues", x.insert(0, 1, 3, 1, -1, 5), 5);
        dueText("the record", textOf(x, 1), "^^^0]5]7/8]-999]999");
        refused("a sixth value", x, f -> f.insert(0, 1, 3, 5, -1, 1), TOO_MANY);
        refused("a sixth value in front", x, f -> f.insert(0, 1, 3, 0, -1, 1), TOO_MANY);
        refused("a place behind the end", x, f -> f.insert(0, 1, 3, 6, -1, 1), NO_SUCH);
        due("another field", x.insert(0, 1, 2, 0, -1, 1), 1);
        dueText("the record", textOf(x, 1), "^^1^0]5]7/8]-999]999");
    }

    private static void insertSubvalues() {
        CountedFile x = fileWith(1, "5]6^^^");
        due("insert at the end", x.insert(0, 1, 0, 0, 1, 1), 2);
        due("insert at the front", x.insert(0, 1, 0, 0, 0, -2), 3);
        due("insert in the middle", x.insert(0, 1, 0, 0, 2, 3), 4);
        dueText("the record", textOf(x, 1), "-2/5/3/1]6^^^");
        refused("a fifth subvalue", x, f -> f.insert(0, 1, 0, 0, 4, 1), TOO_MANY);
        refused("a fifth subvalue in front", x, f -> f.insert(0, 1, 0, 0, 0, 1), TOO_MANY);
        refused("a place behind the end", x, f -> f.insert(0, 1, 0, 0, 5, 1), NO_SUCH);
        refused("a place behind the end of a short one", x, f -> f.insert(0, 1, 0, 1, 2, 1), NO_SUCH);
        refused("a subvalue of no value", x, f -> f.insert(0, 1, 0, 2, 0, 1), NO_SUCH);
        refused("a subvalue of no value below", x, f -> f.insert(0, 1, 0, -1, 0, 1), NO_SUCH);
        refused("a subvalue in an empty field", x, f -> f.insert(0, 1, 1, 0, 0, 1), NO_SUCH);
        due("a subvalue of the second value", x.insert(0, 1, 0, 1, 0, 4), 2);
        dueText("the record", textOf(x, 1), "-2/5/3/1]4/6^^^");
    }

    private static void insertRefusals() {
        CountedFile x = fileWith(1, "1/2/3/4]2]3]4]5^^^");
        refused("no user", x, f -> f.insert(4, 1, 0, 0, -1, 1), NO_SUCH);
        refused("no user below", x, f -> f.insert(-1, 1, 0, 0, -1, 1), NO_SUCH);
        refused("no record", x, f -> f.insert(0, 2, 0, 0, -1, 1), NO_SUCH);
        refused("no field", x, f -> f.insert(0, 1, 4, 0, -1, 1), NO_SUCH);
        refused("no field below", x, f -> f.insert(0, 1, -1, 0, -1, 1), NO_SUCH);
        refused("no field with a subvalue", x, f -> f.insert(0, 1, 4, 0, 0, 1), NO_SUCH);
        refused("no value below", x, f -> f.insert(0, 1, 1, -1, -1, 1), NO_SUCH);
        refused("no sub -2", x, f -> f.insert(0, 1, 0, 0, -2, 1), NO_SUCH);
        refused("no sub lowest", x, f -> f.insert(0, 1, 0, 0, LOWEST, 1), NO_SUCH);
        refused("no sub highest", x, f -> f.insert(0, 1, 0, 0, HIGHEST, 1), NO_SUCH);
        refused("no value highest", x, f -> f.insert(0, 1, 0, HIGHEST, -1, 1), NO_SUCH);
        refused("number 1000", x, f -> f.insert(0, 1, 1, 0, -1, 1000), BAD_VALUE);
        refused("number -1000", x, f -> f.insert(0, 1, 1, 0, -1, -1000), BAD_VALUE);
        refused("no place ahead of the number", x, f -> f.insert(0, 1, 1, 1, -1, 1000), NO_SUCH);
        refused("the number ahead of the room", x, f -> f.insert(0, 1, 0, 0, -1, 1000), BAD_VALUE);
        x.lock(2, 1);
        refused("the number ahead of the lock", x, f -> f.insert(0, 1, 1, 0, -1, 1000), BAD_VALUE);
        refused("locked", x, f -> f.insert(0, 1, 1, 0, -1, 1), LOCKED);
        refused("the lock ahead of a full field", x, f -> f.insert(0, 1, 0, 0, -1, 1), LOCKED);
        refused("the lock ahead of a full value", x, f -> f.insert(0, 1, 0, 0, 0, 1), LOCKED);
        due("by its user", x.insert(2, 1, 1, 0, -1, 1), 1);
    }

    private static void change() {
        asks("promise 7");
        CountedFile x = fileWith(1, "1/2]3^4^5^6]7/8/9");
        due("change", x.change(0, 1, 0, 0, 1, -999), 2);
        due("change back", x.change(0, 1, 0, 0, 1, 999), -999);
        due("change to the same", x.change(0, 1, 3, 1, 2, 9), 9);
        due("change to 0", x.change(0, 1, 3, 1, 2, 0), 9);
        dueText("the record", textOf(x, 1), "1/999]3^4^5^6]7/8/0");
        refused("no user", x, f -> f.change(4, 1, 0, 0, 0, 1), NO_SUCH);
        refused("no user below", x, f -> f.change(-1, 1, 0, 0, 0, 1), NO_SUCH);
        refused("no record", x, f -> f.change(0, 2, 0, 0, 0, 1), NO_SUCH);
        refused("no field", x, f -> f.change(0, 1, 4, 0, 0, 1), NO_SUCH);
        refused("no field below", x, f -> f.change(0, 1, -1, 0, 0, 1), NO_SUCH);
        refused("no value", x, f -> f.change(0, 1, 0, 2, 0, 1), NO_SUCH);
        refused("no value below", x, f -> f.change(0, 1, 0, -1, 0, 1), NO_SUCH);
        refused("no subvalue", x, f -> f.change(0, 1, 0, 0, 2, 1), NO_SUCH);
        refused("no subvalue below", x, f -> f.change(0, 1, 0, 0, -1, 1), NO_SUCH);
        refused("no subvalue ahead of the number", x, f -> f.change(0, 1, 0, 1, 1, 1000), NO_SUCH);
        refused("number 1000", x, f -> f.change(0, 1, 0, 0, 0, 1000), BAD_VALUE);
        refused("number -1000", x, f -> f.change(0, 1, 0, 0, 0, -1000), BAD_VALUE);
        x.lock(3, 1);
        refused("the number ahead of the lock", x, f -> f.change(0, 1, 0, 0, 0, 1000), BAD_VALUE);
        refused("locked", x, f -> f.change(0, 1, 0, 0, 0, 1), LOCKED);
        due("by its user", x.change(3, 1, 0, 0, 0, 5), 1);
    }

    private static void remove() {
        asks("promise 8");
        CountedFile x = fileWith(1, "1/2/3/4]5/6]7]8/9]10^1]2^^11]12/13");
        due("a subvalue in the middle", x.remove(0, 1, 0, 0, 1), 5);
        dueText("the record", textOf(x, 1), "1/3/4]5/6]7]8/9]10^1]2^^11]12/13");
        due("the last subvalue of a value", x.remove(0, 1, 0, 0, 2), 5);
        due("the only subvalue", x.remove(0, 1, 0, 2, 0), 4);
        dueText("the record", textOf(x, 1), "1/3]5/6]8/9]10^1]2^^11]12/13");
        due("a whole value", x.remove(0, 1, 0, 0, -1), 3);
        due("the last value", x.remove(0, 1, 0, 2, -1), 2);
        dueText("the record", textOf(x, 1), "5/6]8/9^1]2^^11]12/13");
        refused("no value", x, f -> f.remove(0, 1, 0, 2, -1), NO_SUCH);
        refused("no value with a subvalue", x, f -> f.remove(0, 1, 0, 2, 0), NO_SUCH);
        refused("no value below", x, f -> f.remove(0, 1, 0, -1, -1), NO_SUCH);
        refused("no subvalue", x, f -> f.remove(0, 1, 0, 0, 2), NO_SUCH);
        refused("sub -2", x, f -> f.remove(0, 1, 0, 0, -2), NO_SUCH);
        refused("no field", x, f -> f.remove(0, 1, 4, 0, -1), NO_SUCH);
        refused("no field below", x, f -> f.remove(0, 1, -1, 0, -1), NO_SUCH);
        refused("no record", x, f -> f.remove(0, 2, 0, 0, -1), NO_SUCH);
        refused("no user", x, f -> f.remove(4, 1, 0, 0, -1), NO_SUCH);
        refused("no user below", x, f -> f.remove(-1, 1, 0, 0, -1), NO_SUCH);
        refused("an empty field", x, f -> f.remove(0, 1, 2, 0, -1), NO_SUCH);
        x.lock(1, 1);
        refused("no value ahead of the lock", x, f -> f.remove(0, 1, 0, 2, -1), NO_SUCH);
        refused("locked", x, f -> f.remove(0, 1, 0, 0, -1), LOCKED);
        due("by its user", x.remove(1, 1, 1, 0, 0), 1);
        due("to an empty field", x.remove(1, 1, 1, 0, 0), 0);
        dueText("the record", textOf(x, 1), "5/6]8/9^^^11]12/13");
    }

    private static void removeFromFullFields() {
        CountedFile x = fileWith(1, "^^1]2]3]4]5/6/7/8^1]2]3]4]5/6/7/8");
        due("the first subvalue of four", x.remove(0, 1, 3, 4, 0), 5);
        due("the first value of five", x.remove(0, 1, 3, 0, -1), 4);
        due("the first value of five in another field", x.remove(0, 1, 2, 0, 0), 4);
        dueText("the record", textOf(x, 1), "^^2]3]4]5/6/7/8^2]3]4]6/7/8");
        due("the last value", x.remove(0, 1, 3, 3, -1), 3);
        dueText("the record", textOf(x, 1), "^^2]3]4]5/6/7/8^2]3]4");
    }

    private static void removeLine() {
        asks("promise 9");
        CountedFile x = fileWith(1, "1]2]3]4]5^1/2]3]4^5]6/7^8]9");
        refused("the place of a field that is not associated", x, f -> f.removeLine(0, 1, 3), NO_SUCH);
        due("a line of two", x.removeLine(0, 1, 1), 2);
        dueText("the record", textOf(x, 1), "1]2]3]4]5^1/2]4^5^8]9");
        due("a line of one", x.removeLine(0, 1, 1), 1);
        dueText("the record", textOf(x, 1), "1]2]3]4]5^1/2^5^8]9");
        refused("no line", x, f -> f.removeLine(0, 1, 1), NO_SUCH);
        refused("no line below", x, f -> f.removeLine(0, 1, -1), NO_SUCH);
        refused("no line lowest", x, f -> f.removeLine(0, 1, LOWEST), NO_SUCH);
        x.associate(0, true);
        x.associate(3, true);
        due("a line of four", x.removeLine(0, 1, 0), 4);
        dueText("the record", textOf(x, 1), "2]3]4]5^^^9");
        due("the last line", x.removeLine(0, 1, 3), 1);
        refused("no user", x, f -> f.removeLine(4, 1, 0), NO_SUCH);
        refused("no user below", x, f -> f.removeLine(-1, 1, 0), NO_SUCH);
        refused("no record", x, f -> f.removeLine(0, 2, 0), NO_SUCH);
        x.lock(1, 1);
        refused("locked", x, f -> f.removeLine(0, 1, 0), LOCKED);
        refused("no line ahead of the lock", x, f -> f.removeLine(0, 1, 3), NO_SUCH);
        due("by its user", x.removeLine(1, 1, 2), 1);
        x.associate(0, false);
        due("without the field", x.removeLine(1, 1, 0), 1);
        dueText("the record", textOf(x, 1), "2]3^^^");
    }

    private static void load() {
        asks("promise 10");
        CountedFile x = new CountedFile();
        x.create(1);
        x.create(2);
        refused("the empty text", x, f -> f.load(0, 1), BAD_TEXT);
        String text = "-999/0/999/1]2^^-1]20]-300]4]5^7/8";
        type(x, text);
        due("load", x.load(0, 1), 12);
        dueText("the record", textOf(x, 1), text);
        due("the text stays", x.clearText(), text.length());
        dueText("the other record", textOf(x, 2), "^^^");
        type(x, "^1/2^^");
        due("load of fewer", x.load(0, 1), 2);
        dueText("the record", textOf(x, 1), "^1/2^^");
        due("load of another with the same text", x.load(3, 2), 2);
        refused("no user", x, f -> f.load(4, 1), NO_SUCH);
        refused("no user below", x, f -> f.load(-1, 1), NO_SUCH);
        refused("no record", x, f -> f.load(0, 3), NO_SUCH);
        x.lock(1, 1);
        refused("locked", x, f -> f.load(0, 1), LOCKED);
        type(x, "7^8^9");
        refused("the text ahead of the lock", x, f -> f.load(0, 1), BAD_TEXT);
        refused("no record ahead of the text", x, f -> f.load(0, 3), NO_SUCH);
        type(x, "7^8^9^^");
        refused("a fault at the end", x, f -> f.load(1, 1), BAD_TEXT);
        type(x, "^^^");
        due("by its user", x.load(1, 1), 0);
        due("the lock stays", x.locker(1), 1);
        loadIsNotShared();
    }

    private static void loadIsNotShared() {
        CountedFile x = new CountedFile();
        x.create(1);
        x.create(2);
        type(x, "1]2^^^");
        x.load(0, 1);
        x.load(0, 2);
        x.change(0, 1, 0, 0, 0, 9);
        dueText("the changed record", textOf(x, 1), "9]2^^^");
        dueText("the other record", textOf(x, 2), "1]2^^^");
        x.load(0, 1);
        dueText("the record loaded again", textOf(x, 1), "1]2^^^");
    }

    // ---- dictionary and lists

    private static void associate() {
        asks("promise 11");
        CountedFile x = new CountedFile();
        due("associate(1, true) again", x.associate(1, true), 2);
        due("associate(0, true)", x.associate(0, true), 3);
        due("associate(3, true)", x.associate(3, true), 4);
        due("associate(1, false)", x.associate(1, false), 3);
        due("associated(1)", x.associated(1), 0);
        due("associated(0)", x.associated(0), 1);
        due("associate(1, false) again", x.associate(1, false), 3);
        refused("no field", x, f -> f.associate(4, true), NO_SUCH);
        refused("no field below", x, f -> f.associate(-1, false), NO_SUCH);
        x.associate(0, false);
        x.associate(2, false);
        due("the last one", x.associate(3, false), 0);
    }

    private static void define() {
        asks("promise 12");
        CountedFile x = new CountedFile();
        due("define(5, 3, 2, 1)", x.define(5, 3, 2, 1), 4);
        due("define(5, 0, 3, 3)", x.define(5, 0, 3, 3), 3);
        due("define(5, 4, 0, 2)", x.define(5, 4, 0, 2), 0);
        due("define(0, 1, 0, 0)", x.define(0, 1, 0, 0), 0);
        due("its kind", x.column(5, 0), 4);
        due("its first field", x.column(5, 1), 0);
        due("its second field", x.column(5, 2), 2);
        refused("no column", x, f -> f.define(6, 0, 0, 0), NO_SUCH);
        refused("no column below", x, f -> f.define(-1, 0, 0, 0), NO_SUCH);
        refused("no first field", x, f -> f.define(0, 0, 4, 0), NO_SUCH);
        refused("no first field below", x, f -> f.define(0, 0, -1, 0), NO_SUCH);
        refused("no second field", x, f -> f.define(0, 0, 0, 4), NO_SUCH);
        refused("no second field below", x, f -> f.define(0, 4, 0, -1), NO_SUCH);
        refused("kind 5", x, f -> f.define(0, 5, 0, 0), BAD_VALUE);
        refused("kind -1", x, f -> f.define(0, -1, 0, 0), BAD_VALUE);
        refused("no second field ahead of the kind", x, f -> f.define(0, 5, 0, 4), NO_SUCH);
    }

    private static void select() {
        asks("promise 13");
        CountedFile x = fileWith(9, "1]5/3^^^");
        add(x, 0, "5]5^^^");
        add(x, 99, "^^^");
        add(x, 40, "-7^^^");
        due("less, any", x.select(0, 0, 3, false, 0), 2);
        dueText("the list", listOf(x, 0), "9 40");
        due("less, every", x.select(0, 0, 3, true, 7), 1);
        due("less than the lowest", x.select(0, 0, -7, false, 7), 0);
        due("less, every", x.select(0, 0, 3, true, 7), 1);
        dueText("the list", listOf(x, 7), "40");
        due("equal, any", x.select(0, 1, 5, false, 0), 2);
        dueText("the list in place of what it was", listOf(x, 0), "0 9");
        due("equal, every", x.select(0, 1, 5, true, 0), 1);
        due("greater, any", x.select(0, 2, 3, false, 0), 2);
        due("greater, every", x.select(0, 2, 0, true, 0), 2);
        dueText("the list", listOf(x, 0), "0 9");
        due("greater, every, edge", x.select(0, 2, 1, true, 0), 1);
        due("none", x.select(0, 1, 77, false, 7), 0);
        dueText("the empty list", listOf(x, 7), "");
        due("the lowest number", x.select(0, 2, -1000000, true, 1), 3);
        due("the greatest number", x.select(0, 0, 1000000, false, 2), 3);
        due("by a computed column", x.select(4, 1, 0, true, 3), 1);
        dueText("the list", listOf(x, 3), "99");
        refused("no column", x, f -> f.select(6, 0, 0, true, 0), NO_SUCH);
        refused("no column below", x, f -> f.select(-1, 0, 0, true, 0), NO_SUCH);
        refused("no list", x, f -> f.select(0, 0, 0, true, 8), NO_SUCH);
        refused("no list below", x, f -> f.select(0, 0, 0, true, -1), NO_SUCH);
        refused("test 3", x, f -> f.select(0, 3, 0, true, 0), BAD_VALUE);
        refused("test -1", x, f -> f.select(0, -1, 0, true, 0), BAD_VALUE);
        refused("number 1000001", x, f -> f.select(0, 0, 1000001, true, 0), BAD_VALUE);
        refused("number -1000001", x, f -> f.select(0, 0, -1000001, true, 0), BAD_VALUE);
        refused("no list ahead of the test", x, f -> f.select(0, 3, 0, true, 8), NO_SUCH);
    }

    private static CountedFile fileWithLists() {
        CountedFile x = fileWith(0, "1]2^^^");
        add(x, 50, "2]3^^^");
        add(x, 99, "3^^^");
        x.select(0, 1, 2, false, 0);
        x.select(0, 1, 3, false, 7);
        return x;
    }

    private static void combine() {
        asks("promise 14");
        CountedFile x = fileWithLists();
        due("both", x.combine(0, 0, 7, 1), 1);
        dueText("the list", listOf(x, 1), "50");
        due("at least one", x.combine(1, 0, 7, 2), 3);
        dueText("the list", listOf(x, 2), "0 50 99");
        due("the first only", x.combine(2, 0, 7, 3), 1);
        dueText("the list", listOf(x, 3), "0");
        due("the second only", x.combine(2, 7, 0, 3), 1);
        dueText("the list in place of what it was", listOf(x, 3), "99");
        dueText("the first list stays", listOf(x, 0), "0 50");
        dueText("the second list stays", listOf(x, 7), "50 99");
        due("a list with itself", x.combine(0, 2, 2, 2), 3);
        due("a list without itself", x.combine(2, 2, 2, 4), 0);
        due("into the second", x.combine(2, 0, 7, 7), 1);
        dueText("the list", listOf(x, 7), "0");
        due("into the first", x.combine(1, 0, 3, 0), 3);
        dueText("the list", listOf(x, 0), "0 50 99");
        x.delete(0, 50);
        due("ids without a record", x.combine(0, 0, 1, 5), 1);
        dueText("the list", listOf(x, 5), "50");
        refused("no first list", x, f -> f.combine(0, 8, 0, 0), NO_SUCH);
        refused("no first list below", x, f -> f.combine(0, -1, 0, 0), NO_SUCH);
        refused("no second list", x, f -> f.combine(0, 0, 8, 0), NO_SUCH);
        refused("no second list below", x, f -> f.combine(0, 0, -1, 0), NO_SUCH);
        refused("no result list", x, f -> f.combine(0, 0, 0, 8), NO_SUCH);
        refused("no result list below", x, f -> f.combine(0, 0, 0, -1), NO_SUCH);
        refused("how 3", x, f -> f.combine(3, 0, 0, 0), BAD_VALUE);
        refused("how -1", x, f -> f.combine(-1, 0, 0, 0), BAD_VALUE);
        refused("no list ahead of how", x, f -> f.combine(3, 0, 0, 8), NO_SUCH);
    }

    private static void clearList() {
        asks("promise 15");
        CountedFile x = fileWithLists();
        due("clearList(7)", x.clearList(7), 2);
        dueText("the list", listOf(x, 7), "");
        dueText("the other list", listOf(x, 0), "0 50");
        due("clearList(7) again", x.clearList(7), 0);
        due("clearList(0)", x.clearList(0), 2);
        dueText("the list with the lowest id", listOf(x, 0), "");
        refused("no list", x, f -> f.clearList(8), NO_SUCH);
        refused("no list below", x, f -> f.clearList(-1), NO_SUCH);
    }

    // ---- text, printed text and history

    private static void append() {
        asks("promise 16");
        CountedFile x = new CountedFile();
        due("append(32)", x.append(32), 1);
        due("append(126)", x.append(126), 2);
        due("append(31)", x.append(31), BAD_VALUE);
        due("append(127)", x.append(127), BAD_VALUE);
        due("append(-1)", x.append(-1), BAD_VALUE);
        due("append(65585)", x.append(65585), BAD_VALUE);
        for (int length = 3; length <= 90; length++) {
            due("append(49)", x.append(49), length);
        }
        due("append of one too many", x.append(49), TOO_MANY);
        due("the character ahead of the room", x.append(31), BAD_VALUE);
        due("the length stays", x.clearText(), 90);
        due("append afterwards", x.append(49), 1);
        due("no action", x.undo(), NONE);
    }

    private static void clearText() {
        asks("promise 17");
        CountedFile x = new CountedFile();
        type(x, "1^^^2");
        due("clearText", x.clearText(), 5);
        due("clearText again", x.clearText(), 0);
        due("the fault", x.fault(), 0);
        type(x, "^^^");
        due("the fault of a new text", x.fault(), NONE);
    }

    private static void dueFault(String text, int want) {
        CountedFile x = new CountedFile();
        type(x, text);
        due("fault of " + text, x.fault(), want);
        due("fault again of " + text, x.fault(), want);
        due("length of " + text, x.clearText(), text.length());
    }

    private static void fault() {
        asks("promise 18");
        dueFault("", 0);
        dueFault("^^^", NONE);
        dueFault("^^", 2);
        dueFault("^^^^", 3);
        dueFault("0^0^0^0", NONE);
        dueFault("-1/-22/-999/999]0]10]100]7^^^1", NONE);
        dueFault("1/2/3/4]1/2/3/4]1/2/3/4]1/2/3/4]1/2/3/4^^^", NONE);
        dueFault("^^^1]2]3]4]5", NONE);
        dueFault("^^^1]2]3]4]5]", 12);
        dueFault("^^^1]2]3]4]5]6", 12);
        dueFault("^^^1/2/3/4", NONE);
        dueFault("^^^1/2/3/4/", 10);
        dueFault("1/2/3/4]1/2/3/4/", 15);
        dueFault("1]2]3]4]5^1]2]3]4]5]", 19);
        dueFault("1", 1);
        dueFault("-", 1);
        dueFault("-0", 1);
        dueFault("--1", 1);
        dueFault("-^", 1);
        dueFault("00", 1);
        dueFault("01", 1);
        dueFault("999", 3);
        dueFault("1000", 3);
        dueFault("-9999", 4);
        dueFault("-10^", 4);
        dueFault("/", 0);
        dueFault("]", 0);
        dueFault("1]", 2);
        dueFault("1]^", 2);
        dueFault("1]]", 2);
        dueFault("1]/", 2);
        dueFault("1/", 2);
        dueFault("1/^", 2);
        dueFault("1//", 2);
        dueFault("1/]", 2);
        dueFault("^/", 1);
        dueFault("1-", 1);
        dueFault("-1-", 2);
        dueFault("-/", 1);
        dueFault("-]", 1);
        dueFault(" ", 0);
        dueFault("1 ^^^", 1);
        dueFault("+1", 0);
        dueFault("1.5", 1);
        dueFault("a", 0);
        dueFault(":", 0);
        dueFault("^^^~", 3);
        dueFault("^^^1]", 5);
        dueFault("^^^-", 4);
        dueFault("^^^\\", 3);
        long90();
    }

    /** A text that is full but not complete has its length as the fault. */
    private static void long90() {
        StringBuilder text = new StringBuilder();
        for (int value = 0; value < 5; value++) {
            text.append(value > 0 ? "]" : "").append("-111/-222/-333/-444");
        }
        dueFault(text.substring(0, 90), 90);
    }

    private static void print() {
        asks("promise 19");
        CountedFile x = fileWith(1, "-999/0/9]10^^100^-5");
        add(x, 2, "^^^");
        due("print", x.print(1), 19);
        dueText("the printed text", printedOf(x), "-999/0/9]10^^100^-5");
        due("print of an empty record", x.print(2), 3);
        dueText("the printed text", printedOf(x), "^^^");
        x.print(1);
        due("print of no record", x.print(3), NO_SUCH);
        due("print of no id", x.print(-1), NO_SUCH);
        dueText("the printed text stays", printedOf(x), "-999/0/9]10^^100^-5");
        x.change(0, 1, 0, 0, 0, 1);
        dueText("the printed text after a change", printedOf(x), "-999/0/9]10^^100^-5");
        x.delete(0, 1);
        dueText("the printed text after delete", printedOf(x), "-999/0/9]10^^100^-5");
        longestPrint();
    }

    private static void longestPrint() {
        CountedFile x = new CountedFile();
        x.create(0);
        StringBuilder want = new StringBuilder();
        for (int field = 0; field < 4; field++) {
            want.append(field > 0 ? "^" : "");
            for (int value = 0; value < 5; value++) {
                want.append(value > 0 ? "]" : "").append("-999/-998/-997/-996");
                x.insert(0, 0, field, value, -1, -999);
                for (int sub = 1; sub < 4; sub++) {
                    x.insert(0, 0, field, value, sub, -999 + sub);
                }
            }
        }
        due("print of the longest record", x.print(0), 399);
        dueText("the printed text", printedOf(x), want.toString());
    }

    private static void printed() {
        asks("promise 20");
        CountedFile x = fileWith(1, "^^^-1/2]3");
        due("printed(0) before print", x.printed(0), NONE);
        x.print(1);
        due("printed(0)", x.printed(0), '^');
        due("printed(3)", x.printed(3), '-');
        due("printed(5)", x.printed(5), '/');
        due("printed(7)", x.printed(7), ']');
        due("printed(8)", x.printed(8), '3');
        due("printed(9)", x.printed(9), NONE);
        due("printed(highest)", x.printed(HIGHEST), NONE);
        due("printed(-1)", x.printed(-1), BAD_VALUE);
        due("printed(lowest)", x.printed(LOWEST), BAD_VALUE);
    }

    private static void undo() {
        asks("promise 21");
        CountedFile x = new CountedFile();
        due("undo of nothing", x.undo(), NONE);
        for (int id = 0; id < 6; id++) {
            x.create(id);
        }
        due("undo of the sixth", x.undo(), 3);
        due("records", x.records(), 5);
        due("undo of the fifth", x.undo(), 2);
        due("undo of the fourth", x.undo(), 1);
        due("undo of the third", x.undo(), 0);
        due("undo of a dropped one", x.undo(), NONE);
        due("records", x.records(), 2);
        due("create after undo", x.create(7), 3);
        due("undo of it", x.undo(), 0);
        due("records", x.records(), 2);
        due("the highest id", x.recordAt(1), 1);
    }

    private static void undoRestoresEverything() {
        CountedFile x = fileWith(1, "1/2]3^4^5]6^7");
        add(x, 9, "8^^^");
        x.select(0, 2, 0, false, 3);
        x.lock(2, 9);
        String before = stateOf(x);
        x.change(0, 1, 0, 0, 1, 77);
        x.removeLine(0, 1, 0);
        x.delete(2, 9);
        x.clearList(3);
        due("undo", x.undo(), 3);
        x.undo();
        x.undo();
        due("undo to the end", x.undo(), 0);
        dueText("the state", stateOf(x), before);
        x.associate(0, true);
        x.define(5, 2, 3, 3);
        x.unlock(2, 9);
        type(x, "^^^1");
        x.load(0, 1);
        for (int time = 0; time < 4; time++) {
            x.undo();
        }
        dueText("the state", stateOf(x), before);
        x.insert(0, 1, 1, 0, -1, 9);
        x.remove(0, 1, 0, 1, 0);
        x.lock(0, 1);
        x.combine(2, 3, 3, 3);
        for (int time = 0; time < 4; time++) {
            x.undo();
        }
        dueText("the state", stateOf(x), before);
    }

    private static void undoKeepsTexts() {
        CountedFile x = fileWith(1, "1^^^");
        x.change(0, 1, 0, 0, 0, 2);
        x.print(1);
        type(x, "^^^5");
        x.undo();
        dueText("the printed text", printedOf(x), "2^^^");
        due("the text", x.fault(), NONE);
        due("the length of the text", x.clearText(), 4);
        dueText("the record", textOf(x, 1), "1^^^");
    }

    /** Each action that returns no error code records a state, even if it changes nothing. */
    private static void everyActionIsRecorded() {
        dueRecorded("create", f -> f.create(5));
        dueRecorded("delete", f -> f.delete(0, 1));
        dueRecorded("lock", f -> f.lock(0, 1));
        dueRecorded("lock again", f -> f.lock(3, 2));
        dueRecorded("unlock", f -> f.unlock(3, 2));
        dueRecorded("insert of a value", f -> f.insert(0, 1, 0, 0, -1, 1));
        dueRecorded("insert of a subvalue", f -> f.insert(0, 1, 0, 0, 0, 1));
        dueRecorded("change to the same", f -> f.change(0, 1, 0, 0, 0, 1));
        dueRecorded("remove", f -> f.remove(0, 1, 0, 0, -1));
        dueRecorded("removeLine", f -> f.removeLine(0, 1, 0));
        dueRecorded("load of the same", f -> f.load(0, 1));
        dueRecorded("associate of the same", f -> f.associate(1, true));
        dueRecorded("define of the same", f -> f.define(5, 4, 1, 2));
        dueRecorded("select of none", f -> f.select(0, 1, 555, true, 0));
        dueRecorded("combine of empty lists", f -> f.combine(0, 0, 0, 0));
        dueRecorded("clearList of an empty list", f -> f.clearList(0));
    }

    private static void dueRecorded(String call, ToIntFunction<CountedFile> made) {
        CountedFile x = readyFile();
        String before = stateOf(x);
        due(call + " is no error", made.applyAsInt(x) >= 0 ? 1 : 0, 1);
        due("undo of " + call, x.undo(), 1);
        dueText("the state after undo of " + call, stateOf(x), before);
    }

    /** Two records, one of them locked by the user 3, a text, and one state in the history. */
    private static CountedFile readyFile() {
        CountedFile x = fileWith(1, "1]2^3^^");
        x.create(2);
        x.lock(3, 2);
        type(x, "1]2^3^^");
        for (int time = 0; time < 4; time++) {
            x.clearList(7);
        }
        for (int time = 0; time < 3; time++) {
            x.undo();
        }
        return x;
    }

    private static void noOtherCallIsRecorded() {
        CountedFile x = readyFile();
        x.append('1');
        x.clearText();
        x.fault();
        x.print(1);
        x.printed(0);
        x.records();
        x.recordAt(0);
        x.locker(1);
        x.values(1, 0);
        x.subvalues(1, 0, 0);
        x.get(1, 0, 0, 0);
        x.lines(1);
        x.locate(1, 0, 1);
        x.column(0, 0);
        x.associated(0);
        x.listSize(0);
        x.listAt(0, 0);
        x.numbers(1, 0);
        x.numberAt(1, 0, 0);
        x.exploded(0);
        x.explodedAt(0, true, 0, 0);
        x.total(0, -1);
        x.mean(0);
        x.repeated(0);
        due("undo of the one state", x.undo(), 0);
        due("undo of no state", x.undo(), NONE);
    }

    // ---- what there is

    private static void records() {
        asks("promise 22");
        CountedFile x = new CountedFile();
        due("records of an empty file", x.records(), 0);
        x.create(3);
        x.create(1);
        due("records", x.records(), 2);
        x.create(3);
        due("records after a refusal", x.records(), 2);
        x.delete(0, 3);
        due("records after delete", x.records(), 1);
        x.undo();
        due("records after undo", x.records(), 2);
    }

    private static void recordAt() {
        asks("promise 23");
        CountedFile x = new CountedFile();
        due("recordAt(0) of an empty file", x.recordAt(0), NONE);
        x.create(50);
        x.create(0);
        x.create(99);
        x.create(7);
        due("recordAt(0)", x.recordAt(0), 0);
        due("recordAt(1)", x.recordAt(1), 7);
        due("recordAt(2)", x.recordAt(2), 50);
        due("recordAt(3)", x.recordAt(3), 99);
        due("recordAt(4)", x.recordAt(4), NONE);
        due("recordAt(10)", x.recordAt(10), NONE);
        due("recordAt(highest)", x.recordAt(HIGHEST), NONE);
        due("recordAt(-1)", x.recordAt(-1), BAD_VALUE);
        due("recordAt(lowest)", x.recordAt(LOWEST), BAD_VALUE);
        x.delete(0, 7);
        due("recordAt(1) after delete", x.recordAt(1), 50);
        due("recordAt(3) after delete", x.recordAt(3), NONE);
    }

    private static void locker() {
        asks("promise 24");
        CountedFile x = new CountedFile();
        x.create(1);
        due("locker of an unlocked one", x.locker(1), NONE);
        x.lock(0, 1);
        due("locker", x.locker(1), 0);
        x.lock(1, 1);
        due("locker after a refusal", x.locker(1), 0);
        due("locker of no record", x.locker(2), NO_SUCH);
        due("locker of no id", x.locker(-1), NO_SUCH);
        due("locker of no id above", x.locker(100), NO_SUCH);
    }

    private static void values() {
        asks("promise 25");
        CountedFile x = fileWith(1, "1/2/3]4^^5^1]2]3]4]5");
        due("values(1, 0)", x.values(1, 0), 2);
        due("values(1, 1)", x.values(1, 1), 0);
        due("values(1, 2)", x.values(1, 2), 1);
        due("values(1, 3)", x.values(1, 3), 5);
        due("no field", x.values(1, 4), NO_SUCH);
        due("no field below", x.values(1, -1), NO_SUCH);
        due("no record", x.values(0, 0), NO_SUCH);
        due("no id", x.values(-1, 0), NO_SUCH);
    }

    private static void subvalues() {
        asks("promise 26");
        CountedFile x = fileWith(1, "1/2/3]4^^5^1]2]3]4]5/6/7/8");
        due("subvalues(1, 0, 0)", x.subvalues(1, 0, 0), 3);
        due("subvalues(1, 0, 1)", x.subvalues(1, 0, 1), 1);
        due("subvalues(1, 3, 4)", x.subvalues(1, 3, 4), 4);
        due("no value", x.subvalues(1, 0, 2), NO_SUCH);
        due("no value below", x.subvalues(1, 0, -1), NO_SUCH);
        due("no value in an empty field", x.subvalues(1, 1, 0), NO_SUCH);
        due("no value above", x.subvalues(1, 3, 5), NO_SUCH);
        due("no field", x.subvalues(1, 4, 0), NO_SUCH);
        due("no field below", x.subvalues(1, -1, 0), NO_SUCH);
        due("no record", x.subvalues(2, 0, 0), NO_SUCH);
    }

    private static void get() {
        asks("promise 27");
        CountedFile x = fileWith(1, "1/-2/3]4^^5^1]2]3]4]5/6/7/-999");
        due("get(1, 0, 0, 0)", x.get(1, 0, 0, 0), 1);
        due("get(1, 0, 0, 1)", x.get(1, 0, 0, 1), -2);
        due("get(1, 0, 1, 0)", x.get(1, 0, 1, 0), 4);
        due("get(1, 2, 0, 0)", x.get(1, 2, 0, 0), 5);
        due("get(1, 3, 4, 3)", x.get(1, 3, 4, 3), -999);
        due("no subvalue", x.get(1, 0, 0, 3), NO_SUCH);
        due("no subvalue of a short value", x.get(1, 0, 1, 1), NO_SUCH);
        due("no subvalue below", x.get(1, 0, 0, -1), NO_SUCH);
        due("no subvalue above", x.get(1, 3, 4, 4), NO_SUCH);
        due("no value", x.get(1, 0, 2, 0), NO_SUCH);
        due("no value below", x.get(1, 0, -1, 0), NO_SUCH);
        due("no field", x.get(1, 4, 0, 0), NO_SUCH);
        due("no field below", x.get(1, -1, 0, 0), NO_SUCH);
        due("no record", x.get(0, 0, 0, 0), NO_SUCH);
    }

    private static void lines() {
        asks("promise 28");
        CountedFile x = fileWith(1, "1]2]3]4]5^1^2]3/4/5/6^7]8]9");
        due("lines", x.lines(1), 2);
        x.associate(2, false);
        due("lines of one field", x.lines(1), 1);
        x.associate(3, true);
        due("lines of two fields", x.lines(1), 3);
        x.associate(0, true);
        due("lines with all values", x.lines(1), 5);
        x.associate(0, false);
        x.associate(1, false);
        x.associate(3, false);
        due("lines of no field", x.lines(1), 0);
        due("no record", x.lines(2), NO_SUCH);
        due("no id", x.lines(-1), NO_SUCH);
        x.create(2);
        x.associate(1, true);
        due("lines of an empty record", x.lines(2), 0);
    }

    private static void locate() {
        asks("promise 29");
        CountedFile x = fileWith(1, "1/2/3]4/5]2/5/1/999^^^1]2]3]4]-999/0/6/7");
        due("in the first value", x.locate(1, 0, 2), 1);
        due("in the second value", x.locate(1, 0, 5), 11);
        due("in the third value", x.locate(1, 0, 999), 23);
        due("the first subvalue", x.locate(1, 0, 1), 0);
        due("the last one", x.locate(1, 3, 7), 43);
        due("the lowest number", x.locate(1, 3, -999), 40);
        due("none", x.locate(1, 0, 6), NONE);
        due("none in an empty field", x.locate(1, 1, 0), NONE);
        due("number 1000", x.locate(1, 0, 1000), BAD_VALUE);
        due("number -1000", x.locate(1, 0, -1000), BAD_VALUE);
        due("no field", x.locate(1, 4, 1), NO_SUCH);
        due("no field below", x.locate(1, -1, 1), NO_SUCH);
        due("no record", x.locate(2, 0, 1), NO_SUCH);
        due("no record ahead of the number", x.locate(2, 0, 1000), NO_SUCH);
        due("no field ahead of the number", x.locate(1, 4, 1000), NO_SUCH);
        x.remove(0, 1, 0, 2, 3);
        due("a removed subvalue", x.locate(1, 0, 999), NONE);
        x.remove(0, 1, 3, 4, -1);
        due("a removed value", x.locate(1, 3, 7), NONE);
    }

    private static void column() {
        asks("promise 30");
        CountedFile x = new CountedFile();
        due("column(3, 0)", x.column(3, 0), 0);
        due("column(3, 1)", x.column(3, 1), 3);
        due("column(3, 2)", x.column(3, 2), 0);
        due("column(4, 0)", x.column(4, 0), 1);
        due("column(5, 0)", x.column(5, 0), 4);
        due("column(5, 1)", x.column(5, 1), 1);
        due("column(5, 2)", x.column(5, 2), 2);
        x.define(0, 2, 1, 3);
        due("column(0, 0)", x.column(0, 0), 2);
        due("column(0, 1)", x.column(0, 1), 1);
        due("column(0, 2)", x.column(0, 2), 3);
        due("no column", x.column(6, 0), NO_SUCH);
        due("no column below", x.column(-1, 0), NO_SUCH);
        due("what 3", x.column(0, 3), BAD_VALUE);
        due("what -1", x.column(0, -1), BAD_VALUE);
        due("no column ahead of what", x.column(6, 3), NO_SUCH);
    }

    private static void associated() {
        asks("promise 31");
        CountedFile x = new CountedFile();
        due("associated(0)", x.associated(0), 0);
        due("associated(1)", x.associated(1), 1);
        due("associated(2)", x.associated(2), 1);
        due("associated(3)", x.associated(3), 0);
        x.associate(3, true);
        due("associated(3) afterwards", x.associated(3), 1);
        due("no field", x.associated(4), NO_SUCH);
        due("no field below", x.associated(-1), NO_SUCH);
    }

    private static void listSize() {
        asks("promise 32");
        CountedFile x = fileWithLists();
        due("listSize(0)", x.listSize(0), 2);
        due("listSize(1)", x.listSize(1), 0);
        due("listSize(7)", x.listSize(7), 2);
        x.delete(0, 0);
        due("listSize after delete", x.listSize(0), 2);
        x.combine(1, 0, 7, 6);
        due("listSize(6)", x.listSize(6), 3);
        due("no list", x.listSize(8), NO_SUCH);
        due("no list below", x.listSize(-1), NO_SUCH);
    }

    private static void listAt() {
        asks("promise 33");
        CountedFile x = fileWithLists();
        due("listAt(0, 0)", x.listAt(0, 0), 0);
        due("listAt(0, 1)", x.listAt(0, 1), 50);
        due("listAt(0, 2)", x.listAt(0, 2), NONE);
        due("listAt(7, 1)", x.listAt(7, 1), 99);
        due("listAt(1, 0)", x.listAt(1, 0), NONE);
        due("listAt(0, highest)", x.listAt(0, HIGHEST), NONE);
        due("place -1", x.listAt(0, -1), BAD_VALUE);
        due("no list", x.listAt(8, 0), NO_SUCH);
        due("no list below", x.listAt(-1, 0), NO_SUCH);
        due("no list ahead of the place", x.listAt(8, -1), NO_SUCH);
    }

    // ---- computed

    private static void numbers() {
        asks("promise 34");
        CountedFile x = fileWith(1, "1/2/3]4^1]2]3^4]5^");
        due("kind 0", x.numbers(1, 0), 4);
        due("kind 0 of an empty field", x.numbers(1, 3), 0);
        due("kind 1", x.numbers(1, 4), 1);
        due("kind 4", x.numbers(1, 5), 2);
        x.define(3, 2, 3, 0);
        due("kind 2 of an empty field", x.numbers(1, 3), 1);
        x.define(3, 1, 3, 0);
        due("kind 1 of an empty field", x.numbers(1, 3), 1);
        x.define(3, 3, 3, 0);
        due("kind 3 of an empty field", x.numbers(1, 3), 0);
        x.define(3, 3, 0, 0);
        due("kind 3", x.numbers(1, 3), 2);
        x.define(3, 4, 0, 3);
        due("kind 4 with an empty field", x.numbers(1, 3), 0);
        due("no record", x.numbers(2, 0), NO_SUCH);
        due("no column", x.numbers(1, 6), NO_SUCH);
        due("no column below", x.numbers(1, -1), NO_SUCH);
        add(x, 2, "1/2/3/4]5/6/7/8]9/10/11/12]13/14/15/16]17/18/19/20^^^");
        due("twenty numbers", x.numbers(2, 0), 20);
        dueText("the twenty numbers", numbersOf(x, 2, 0),
                "1 2 3 4 5 6 7 8 9 10 11 12 13 14 15 16 17 18 19 20");
    }

    private static void numberAt() {
        asks("promise 35");
        CountedFile x = fileWith(1, "1/-2/3]4^-5/9]-7]2/1^-3/8]6^");
        dueText("kind 0", numbersOf(x, 1, 0), "1 -2 3 4");
        dueText("kind 1", numbersOf(x, 1, 4), "2");
        dueText("kind 4", numbersOf(x, 1, 5), "15 -42");
        x.define(0, 2, 1, 0);
        dueText("kind 2", numbersOf(x, 1, 0), "0");
        x.define(0, 3, 1, 0);
        dueText("kind 3", numbersOf(x, 1, 0), "9 -7 2");
        x.define(0, 2, 3, 0);
        dueText("kind 2 of an empty field", numbersOf(x, 1, 0), "0");
        x.define(0, 1, 3, 0);
        dueText("kind 1 of an empty field", numbersOf(x, 1, 0), "0");
        x.define(0, 4, 2, 1);
        dueText("kind 4 the other way", numbersOf(x, 1, 0), "15 -42");
        x.define(0, 4, 1, 1);
        dueText("kind 4 of one field", numbersOf(x, 1, 0), "25 49 4");
        due("another column first", x.numberAt(1, 4, 0), 2);
        due("the number of this column", x.numberAt(1, 0, 2), 4);
        due("place behind the end", x.numberAt(1, 0, 3), NONE);
        due("place highest", x.numberAt(1, 0, HIGHEST), NONE);
        due("place -1", x.numberAt(1, 0, -1), BAD_VALUE);
        due("no record", x.numberAt(2, 0, 0), NO_SUCH);
        due("no column", x.numberAt(1, 6, 0), NO_SUCH);
        due("no column below", x.numberAt(1, -1, 0), NO_SUCH);
        due("no column ahead of the place", x.numberAt(1, 6, -1), NO_SUCH);
        due("no record ahead of the place", x.numberAt(2, 0, -1), NO_SUCH);
        greatestNumbers();
    }

    private static void greatestNumbers() {
        CountedFile x = fileWith(1, "-999/-998/-1000000^-999]999^999]999^");
        due("no record by a faulty text", x.values(1, 0), 0);
        type(x, "-5/-3/-4^-999]999^999]999^");
        x.load(0, 1);
        dueText("the greatest products", numbersOf(x, 1, 5), "-998001 998001");
        x.define(0, 3, 0, 0);
        dueText("the greatest of negative ones", numbersOf(x, 1, 0), "-3");
        x.define(0, 2, 0, 0);
        dueText("the sum of negative ones", numbersOf(x, 1, 0), "-12");
    }

    private static CountedFile threeRecords() {
        CountedFile x = fileWith(50, "3/1]3^^^");
        add(x, 7, "3]-2/1^2^3^");
        add(x, 99, "^^^");
        return x;
    }

    private static void exploded() {
        asks("promise 36");
        CountedFile x = threeRecords();
        due("exploded(0)", x.exploded(0), 6);
        due("exploded(3)", x.exploded(3), 0);
        due("exploded(4)", x.exploded(4), 3);
        due("exploded(5)", x.exploded(5), 1);
        x.delete(0, 7);
        due("exploded(0) after delete", x.exploded(0), 3);
        due("exploded of an empty file", new CountedFile().exploded(4), 0);
        due("no column", x.exploded(6), NO_SUCH);
        due("no column below", x.exploded(-1), NO_SUCH);
    }

    private static void explodedAt() {
        asks("promise 37");
        CountedFile x = threeRecords();
        dueText("ascending", explodedOf(x, 0, false), "-2@7.1 1@7.2 1@50.1 3@7.0 3@50.0 3@50.2");
        dueText("descending", explodedOf(x, 0, true), "3@7.0 3@50.0 3@50.2 1@7.2 1@50.1 -2@7.1");
        dueText("a computed column", explodedOf(x, 4, true), "2@7.0 2@50.0 0@99.0");
        due("index behind the end", x.explodedAt(0, false, 6, 0), NONE);
        due("index highest", x.explodedAt(0, false, HIGHEST, 0), NONE);
        due("an empty list", x.explodedAt(3, false, 0, 0), NONE);
        due("index -1", x.explodedAt(0, false, -1, 0), BAD_VALUE);
        due("part 3", x.explodedAt(0, false, 0, 3), BAD_VALUE);
        due("part -1", x.explodedAt(0, false, 0, -1), BAD_VALUE);
        due("the part ahead of the end", x.explodedAt(0, false, 6, 3), BAD_VALUE);
        due("no column", x.explodedAt(6, false, 0, 0), NO_SUCH);
        due("no column below", x.explodedAt(-1, false, 0, 0), NO_SUCH);
        due("no column ahead of the index", x.explodedAt(6, false, -1, 0), NO_SUCH);
        greatestList();
    }

    private static void greatestList() {
        CountedFile x = new CountedFile();
        type(x, "1/1/1/1]1/1/1/1]1/1/1/1]1/1/1/1]1/1/1/2^^^");
        for (int id = 10; id < 20; id++) {
            x.create(id);
            x.load(0, id);
        }
        due("exploded(0)", x.exploded(0), 200);
        due("the id of the last of the ones", x.explodedAt(0, false, 189, 1), 19);
        due("the place of the last of the ones", x.explodedAt(0, false, 189, 2), 18);
        due("the first of the twos", x.explodedAt(0, false, 190, 0), 2);
        due("the last entry", x.explodedAt(0, false, 199, 1), 19);
        due("behind the last entry", x.explodedAt(0, false, 200, 1), NONE);
        due("the first of the ones, descending", x.explodedAt(0, true, 10, 2), 0);
        due("total(0, -1)", x.total(0, -1), 210);
        due("repeated(0)", x.repeated(0), 2);
    }

    private static void total() {
        asks("promise 38");
        CountedFile x = threeRecords();
        due("all records", x.total(0, -1), 9);
        due("an empty list", x.total(0, 0), 0);
        x.select(0, 0, 0, false, 0);
        due("a list of one", x.total(0, 0), 2);
        x.select(0, 1, 3, false, 7);
        due("a list of two", x.total(0, 7), 9);
        x.delete(0, 50);
        due("a list with an id without a record", x.total(0, 7), 2);
        due("a computed column", x.total(5, -1), 6);
        due("a column without numbers", x.total(3, -1), 0);
        due("no column", x.total(6, -1), NO_SUCH);
        due("no column below", x.total(-1, 0), NO_SUCH);
        due("no list", x.total(0, 8), NO_SUCH);
        due("no list below", x.total(0, -2), NO_SUCH);
    }

    private static void mean() {
        asks("promise 39");
        CountedFile x = threeRecords();
        dueFloat("mean(0)", x.mean(0), 1.5f);
        dueFloat("mean(3)", x.mean(3), 0.0f);
        dueFloat("mean(4)", x.mean(4), 4.0f / 3.0f);
        dueFloat("no column", x.mean(6), -2000000.0f);
        dueFloat("no column below", x.mean(-1), -2000000.0f);
        dueFloat("an empty file", new CountedFile().mean(4), 0.0f);
        dueFloat("a mean of zero", fileWith(1, "-1]1^^^").mean(0), 0.0f);
        sumBeyondFloats();
    }

    /** The sum is made of whole numbers, and only the sum becomes a float. */
    private static void sumBeyondFloats() {
        CountedFile x = new CountedFile();
        for (int id = 0; id < 7; id++) {
            add(x, id, "^999]997]991]983]977^999]989]971]967]953^");
        }
        int sum = 7 * (999 * 999 + 997 * 989 + 991 * 971 + 983 * 967 + 977 * 953);
        due("total(5, -1)", x.total(5, -1), sum);
        dueFloat("mean(5)", x.mean(5), (float) sum / 35.0f);
    }

    private static void repeated() {
        asks("promise 40");
        CountedFile x = threeRecords();
        due("repeated(0)", x.repeated(0), 2);
        due("repeated(4)", x.repeated(4), 1);
        due("repeated(5)", x.repeated(5), 0);
        due("repeated(3)", x.repeated(3), 0);
        x.delete(0, 7);
        due("repeated in one record", x.repeated(0), 1);
        due("an empty file", new CountedFile().repeated(0), 0);
        due("no column", x.repeated(6), NO_SUCH);
        due("no column below", x.repeated(-1), NO_SUCH);
        due("the first two alone", fileWith(1, "1/1/2^^^").repeated(0), 1);
        due("three different ones", fileWith(1, "1/2/3^^^").repeated(0), 0);
        due("three, two and one", fileWith(1, "5/5/5/2]2]-5^^^").repeated(0), 2);
    }
}
