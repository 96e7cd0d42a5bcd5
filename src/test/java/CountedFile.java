import java.util.ArrayList;
import java.util.List;
import java.util.function.ToIntFunction;

/**
 * A MultiValueFile for tests. The document promises the answers of the first 512 calls of an object, so
 * before a 513th a new object is made, and the calls that may have changed something are made on it again.
 */
final class CountedFile {
    private static final int MOST_CALLS = 512;

    private final List<ToIntFunction<MultiValueFile>> changes = new ArrayList<>();
    private MultiValueFile file = new MultiValueFile();
    private int calls = 0;

    /** Another object to which the same has happened; what happens to it does not happen to this one. */
    CountedFile twin() {
        CountedFile made = new CountedFile();
        made.changes.addAll(changes);
        made.begin();
        return made;
    }

    private void begin() {
        file = new MultiValueFile();
        calls = changes.size();
        if (calls >= MOST_CALLS) {
            throw new IllegalStateException("a test changes one file too often");
        }
        changes.forEach(change -> change.applyAsInt(file));
    }

    private void makeRoom() {
        if (calls >= MOST_CALLS) {
            begin();
        }
        calls++;
    }

    private int act(ToIntFunction<MultiValueFile> change) {
        makeRoom();
        changes.add(change);
        return change.applyAsInt(file);
    }

    private MultiValueFile seen() {
        makeRoom();
        return file;
    }

    int create(int id) {
        return act(f -> f.create(id));
    }

    int delete(int user, int id) {
        return act(f -> f.delete(user, id));
    }

    int lock(int user, int id) {
        return act(f -> f.lock(user, id));
    }

    int unlock(int user, int id) {
        return act(f -> f.unlock(user, id));
    }

    int insert(int user, int id, int field, int value, int sub, int number) {
        return act(f -> f.insert(user, id, field, value, sub, number));
    }

    int change(int user, int id, int field, int value, int sub, int number) {
        return act(f -> f.change(user, id, field, value, sub, number));
    }

    int remove(int user, int id, int field, int value, int sub) {
        return act(f -> f.remove(user, id, field, value, sub));
    }

    int removeLine(int user, int id, int place) {
        return act(f -> f.removeLine(user, id, place));
    }

    int load(int user, int id) {
        return act(f -> f.load(user, id));
    }

    int associate(int field, boolean isAssociated) {
        return act(f -> f.associate(field, isAssociated));
    }

    int define(int column, int kind, int first, int second) {
        return act(f -> f.define(column, kind, first, second));
    }

    int select(int column, int test, int number, boolean isEvery, int list) {
        return act(f -> f.select(column, test, number, isEvery, list));
    }

    int combine(int how, int first, int second, int list) {
        return act(f -> f.combine(how, first, second, list));
    }

    int clearList(int list) {
        return act(f -> f.clearList(list));
    }

    int append(int character) {
        return act(f -> f.append(character));
    }

    int clearText() {
        return act(f -> f.clearText());
    }

    int print(int id) {
        return act(f -> f.print(id));
    }

    int undo() {
        return act(f -> f.undo());
    }

    int fault() {
        return seen().fault();
    }

    int printed(int index) {
        return seen().printed(index);
    }

    int records() {
        return seen().records();
    }

    int recordAt(int place) {
        return seen().recordAt(place);
    }

    int locker(int id) {
        return seen().locker(id);
    }

    int values(int id, int field) {
        return seen().values(id, field);
    }

    int subvalues(int id, int field, int value) {
        return seen().subvalues(id, field, value);
    }

    int get(int id, int field, int value, int sub) {
        return seen().get(id, field, value, sub);
    }

    int lines(int id) {
        return seen().lines(id);
    }

    int locate(int id, int field, int number) {
        return seen().locate(id, field, number);
    }

    int column(int column, int what) {
        return seen().column(column, what);
    }

    int associated(int field) {
        return seen().associated(field);
    }

    int listSize(int list) {
        return seen().listSize(list);
    }

    int listAt(int list, int place) {
        return seen().listAt(list, place);
    }

    int numbers(int id, int column) {
        return seen().numbers(id, column);
    }

    int numberAt(int id, int column, int place) {
        return seen().numberAt(id, column, place);
    }

    int exploded(int column) {
        return seen().exploded(column);
    }

    int explodedAt(int column, boolean isDescending, int index, int part) {
        return seen().explodedAt(column, isDescending, index, part);
    }

    int total(int column, int list) {
        return seen().total(column, list);
    }

    float mean(int column) {
        return seen().mean(column);
    }

    int repeated(int column) {
        return seen().repeated(column);
    }
}
