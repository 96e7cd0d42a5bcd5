import java.util.ArrayList;
import java.util.List;
import java.util.TreeMap;
import java.util.TreeSet;
import java.util.regex.Pattern;

/** The model: every promise in its plainest form, with lists that are made anew at each call. */
final class Model {
    private static final int NO_SUCH = -1000001;
    private static final int BAD_VALUE = -1000002;
    private static final int BAD_TEXT = -1000003;
    private static final int TOO_MANY = -1000004;
    private static final int NOT_POSSIBLE = -1000005;
    private static final int LOCKED = -1000006;
    private static final int NONE = -1000007;
    private static final String NUMBER = "(?:0|-?[1-9][0-9]{0,2})";
    private static final String VALUE = NUMBER + "(?:/" + NUMBER + "){0,3}";
    private static final String FIELD = "(?:" + VALUE + "(?:\\]" + VALUE + "){0,4})?";
    private static final Pattern TEXT = Pattern.compile(FIELD + "\\^" + FIELD + "\\^" + FIELD + "\\^" + FIELD);

    private State state = State.first();
    private final List<State> history = new ArrayList<>();
    private String text = "";
    private String printed = "";

    private void record() {
        history.add(state.copy());
        if (history.size() > 4) {
            history.remove(0);
        }
    }

    private boolean noUserOrRecord(int user, int id) {
        return user < 0 || user > 3 || !state.records.containsKey(id);
    }

    private boolean isLockedFor(int user, int id) {
        Integer owner = state.records.get(id).user;
        return owner != null && owner != user;
    }

    private List<List<Integer>> field(int id, int field) {
        Rec rec = state.records.get(id);
        return rec == null || field < 0 || field > 3 ? null : rec.fields.get(field);
    }

    private List<Integer> value(int id, int field, int value) {
        List<List<Integer>> all = field(id, field);
        return all == null || value < 0 || value >= all.size() ? null : all.get(value);
    }

    private Integer subvalue(int id, int field, int value, int sub) {
        List<Integer> all = value(id, field, value);
        return all == null || sub < 0 || sub >= all.size() ? null : all.get(sub);
    }

    private static boolean isNumber(int number) {
        return Math.abs((long) number) <= 999;
    }

    int create(int id) {
        if (id < 0 || id > 99) {
            return BAD_VALUE;
        }
        if (state.records.containsKey(id)) {
            return NOT_POSSIBLE;
        }
        if (state.records.size() == 10) {
            return TOO_MANY;
        }
        record();
        state.records.put(id, new Rec());
        return state.records.size();
    }

    int delete(int user, int id) {
        if (noUserOrRecord(user, id)) {
            return NO_SUCH;
        }
        if (isLockedFor(user, id)) {
            return LOCKED;
        }
        record();
        state.records.remove(id);
        return state.records.size();
    }

    private int lockedBy(int user) {
        return (int) state.records.values().stream().filter(r -> r.user != null && r.user == user).count();
    }

    int lock(int user, int id) {
        if (noUserOrRecord(user, id)) {
            return NO_SUCH;
        }
        if (isLockedFor(user, id)) {
            return LOCKED;
        }
        record();
        state.records.get(id).user = user;
        return lockedBy(user);
    }

    int unlock(int user, int id) {
        if (noUserOrRecord(user, id)) {
            return NO_SUCH;
        }
        if (isLockedFor(user, id)) {
            return LOCKED;
        }
        if (state.records.get(id).user == null) {
            return NOT_POSSIBLE;
        }
        record();
        state.records.get(id).user = null;
        return lockedBy(user);
    }

    int insert(int user, int id, int field, int value, int sub, int number) {
        List<List<Integer>> all = field(id, field);
        if (noUserOrRecord(user, id) || all == null || sub < -1) {
            return NO_SUCH;
        }
        List<Integer> one = value(id, field, value);
        if (sub == -1 ? value < 0 || value > all.size() : one == null || sub > one.size()) {
            return NO_SUCH;
        }
        if (!isNumber(number)) {
            return BAD_VALUE;
        }
        if (isLockedFor(user, id)) {
            return LOCKED;
        }
        if (sub == -1 ? all.size() == 5 : one.size() == 4) {
            return TOO_MANY;
        }
        record();
        if (sub == -1) {
            all.add(value, new ArrayList<>(List.of(number)));
            return all.size();
        }
        one.add(sub, number);
        return one.size();
    }

    int change(int user, int id, int field, int value, int sub, int number) {
        Integer previous = subvalue(id, field, value, sub);
        if (noUserOrRecord(user, id) || previous == null) {
            return NO_SUCH;
        }
        if (!isNumber(number)) {
            return BAD_VALUE;
        }
        if (isLockedFor(user, id)) {
            return LOCKED;
        }
        record();
        value(id, field, value).set(sub, number);
        return previous;
    }

    int remove(int user, int id, int field, int value, int sub) {
        List<Integer> one = value(id, field, value);
        if (noUserOrRecord(user, id) || one == null || sub < -1 || sub >= one.size()) {
            return NO_SUCH;
        }
        if (isLockedFor(user, id)) {
            return LOCKED;
        }
        record();
        if (sub >= 0) {
            one.remove(sub);
        }
        if (sub == -1 || one.isEmpty()) {
            field(id, field).remove(value);
        }
        return field(id, field).size();
    }

    int removeLine(int user, int id, int place) {
        if (noUserOrRecord(user, id)) {
            return NO_SUCH;
        }
        List<Integer> having = new ArrayList<>();
        for (int field : state.associated) {
            if (value(id, field, place) != null) {
                having.add(field);
            }
        }
        if (having.isEmpty()) {
            return NO_SUCH;
        }
        if (isLockedFor(user, id)) {
            return LOCKED;
        }
        record();
        having.forEach(field -> field(id, field).remove(place));
        return having.size();
    }

    int load(int user, int id) {
        if (noUserOrRecord(user, id)) {
            return NO_SUCH;
        }
        if (!isText(text)) {
            return BAD_TEXT;
        }
        if (isLockedFor(user, id)) {
            return LOCKED;
        }
        record();
        Rec rec = state.records.get(id);
        String[] parts = text.split("\\^", -1);
        int count = 0;
        for (int field = 0; field < 4; field++) {
            rec.fields.get(field).clear();
            for (String value : parts[field].isEmpty() ? new String[0] : parts[field].split("\\]")) {
                List<Integer> made = new ArrayList<>();
                for (String number : value.split("/")) {
                    made.add(Integer.parseInt(number));
                    count++;
                }
                rec.fields.get(field).add(made);
            }
        }
        return count;
    }

    int associate(int field, boolean isAssociated) {
        if (field < 0 || field > 3) {
            return NO_SUCH;
        }
        record();
        if (isAssociated) {
            state.associated.add(field);
        } else {
            state.associated.remove(field);
        }
        return state.associated.size();
    }

    private static boolean isIn(int argument, int last) {
        return argument >= 0 && argument <= last;
    }

    int define(int column, int kind, int first, int second) {
        if (!isIn(column, 5) || !isIn(first, 3) || !isIn(second, 3)) {
            return NO_SUCH;
        }
        if (!isIn(kind, 4)) {
            return BAD_VALUE;
        }
        record();
        return state.columns.set(column, new int[] {kind, first, second})[0];
    }

    private List<Integer> given(int id, int column) {
        int[] c = state.columns.get(column);
        List<List<Integer>> first = field(id, c[1]);
        List<List<Integer>> second = field(id, c[2]);
        List<Integer> all = new ArrayList<>();
        first.forEach(all::addAll);
        switch (c[0]) {
            case 0:
                return all;
            case 1:
                return List.of(first.size());
            case 2:
                return List.of(all.stream().mapToInt(n -> n).sum());
            case 3:
                return first.stream().map(v -> v.stream().max(Integer::compare).get()).toList();
            default:
                List<Integer> products = new ArrayList<>();
                for (int place = 0; place < first.size() && place < second.size(); place++) {
                    products.add(first.get(place).get(0) * second.get(place).get(0));
                }
                return products;
        }
    }

    int select(int column, int test, int number, boolean isEvery, int list) {
        if (!isIn(column, 5) || !isIn(list, 7)) {
            return NO_SUCH;
        }
        if (!isIn(test, 2) || Math.abs((long) number) > 1000000) {
            return BAD_VALUE;
        }
        record();
        TreeSet<Integer> chosen = new TreeSet<>();
        for (int id : state.records.keySet()) {
            List<Integer> all = given(id, column);
            boolean any = all.stream().anyMatch(n -> Integer.compare(n, number) == test - 1);
            boolean every = all.stream().allMatch(n -> Integer.compare(n, number) == test - 1);
            if (isEvery ? every && !all.isEmpty() : any) {
                chosen.add(id);
            }
        }
        state.lists.set(list, chosen);
        return chosen.size();
    }

    int combine(int how, int first, int second, int list) {
        if (!isIn(first, 7) || !isIn(second, 7) || !isIn(list, 7)) {
            return NO_SUCH;
        }
        if (!isIn(how, 2)) {
            return BAD_VALUE;
        }
        record();
        TreeSet<Integer> made = new TreeSet<>(state.lists.get(first));
        TreeSet<Integer> other = state.lists.get(second);
        if (how == 0) {
            made.retainAll(other);
        } else if (how == 1) {
            made.addAll(other);
        } else {
            made.removeAll(other);
        }
        state.lists.set(list, made);
        return made.size();
    }

    int clearList(int list) {
        if (!isIn(list, 7)) {
            return NO_SUCH;
        }
        record();
        return state.lists.set(list, new TreeSet<>()).size();
    }

    int append(int character) {
        if (character < 32 || character > 126) {
            return BAD_VALUE;
        }
        if (text.length() == 90) {
            return TOO_MANY;
        }
        text += (char) character;
        return text.length();
    }

    int clearText() {
        int previous = text.length();
        text = "";
        return previous;
    }

    private static boolean isText(String signs) {
        return TEXT.matcher(signs).matches();
    }

    // A text begins so if one of the shortest ways to go on completes it.
    private static boolean isBegin(String begin) {
        for (String next : new String[] {"", "1"}) {
            for (String carets : new String[] {"", "^", "^^", "^^^"}) {
                if (isText(begin + next + carets)) {
                    return true;
                }
            }
        }
        return false;
    }

    int fault() {
        for (int index = 0; index < text.length(); index++) {
            if (!isBegin(text.substring(0, index + 1))) {
                return index;
            }
        }
        return isText(text) ? NONE : text.length();
    }

    int print(int id) {
        if (!state.records.containsKey(id)) {
            return NO_SUCH;
        }
        List<String> fields = new ArrayList<>();
        for (List<List<Integer>> field : state.records.get(id).fields) {
            List<String> values = new ArrayList<>();
            for (List<Integer> value : field) {
                values.add(String.join("/", value.stream().map(String::valueOf).toList()));
            }
            fields.add(String.join("]", values));
        }
        printed = String.join("^", fields);
        return printed.length();
    }

    int printed(int index) {
        if (index < 0) {
            return BAD_VALUE;
        }
        return index < printed.length() ? printed.charAt(index) : NONE;
    }

    int undo() {
        if (history.isEmpty()) {
            return NONE;
        }
        state = history.remove(history.size() - 1);
        return history.size();
    }

    /** What the text is; the object does not tell it, and messages of tests do. */
    String typed() {
        return text;
    }

    String printedText() {
        return printed;
    }

    private static int at(List<Integer> all, int place) {
        if (place < 0) {
            return BAD_VALUE;
        }
        return place < all.size() ? all.get(place) : NONE;
    }

    int records() {
        return state.records.size();
    }

    int recordAt(int place) {
        return at(new ArrayList<>(state.records.keySet()), place);
    }

    int locker(int id) {
        if (!state.records.containsKey(id)) {
            return NO_SUCH;
        }
        Integer user = state.records.get(id).user;
        return user == null ? NONE : user;
    }

    int values(int id, int field) {
        List<List<Integer>> all = field(id, field);
        return all == null ? NO_SUCH : all.size();
    }

    int subvalues(int id, int field, int value) {
        List<Integer> all = value(id, field, value);
        return all == null ? NO_SUCH : all.size();
    }

    int get(int id, int field, int value, int sub) {
        Integer number = subvalue(id, field, value, sub);
        return number == null ? NO_SUCH : number;
    }

    int lines(int id) {
        if (!state.records.containsKey(id)) {
            return NO_SUCH;
        }
        return state.associated.stream().mapToInt(field -> field(id, field).size()).max().orElse(0);
    }

    int locate(int id, int field, int number) {
        List<List<Integer>> all = field(id, field);
        if (all == null) {
            return NO_SUCH;
        }
        if (!isNumber(number)) {
            return BAD_VALUE;
        }
        for (int value = 0; value < all.size(); value++) {
            if (all.get(value).contains(number)) {
                return 10 * value + all.get(value).indexOf(number);
            }
        }
        return NONE;
    }

    int column(int column, int what) {
        if (!isIn(column, 5)) {
            return NO_SUCH;
        }
        return isIn(what, 2) ? state.columns.get(column)[what] : BAD_VALUE;
    }

    int associated(int field) {
        if (!isIn(field, 3)) {
            return NO_SUCH;
        }
        return state.associated.contains(field) ? 1 : 0;
    }

    int listSize(int list) {
        return isIn(list, 7) ? state.lists.get(list).size() : NO_SUCH;
    }

    int listAt(int list, int place) {
        return isIn(list, 7) ? at(new ArrayList<>(state.lists.get(list)), place) : NO_SUCH;
    }

    private boolean noRecordOrColumn(int id, int column) {
        return !state.records.containsKey(id) || !isIn(column, 5);
    }

    int numbers(int id, int column) {
        return noRecordOrColumn(id, column) ? NO_SUCH : given(id, column).size();
    }

    int numberAt(int id, int column, int place) {
        return noRecordOrColumn(id, column) ? NO_SUCH : at(given(id, column), place);
    }

    private List<int[]> entries(int column) {
        List<int[]> all = new ArrayList<>();
        for (int id : state.records.keySet()) {
            List<Integer> given = given(id, column);
            for (int place = 0; place < given.size(); place++) {
                all.add(new int[] {given.get(place), id, place});
            }
        }
        return all;
    }

    int exploded(int column) {
        return isIn(column, 5) ? entries(column).size() : NO_SUCH;
    }

    private static int order(int[] left, int[] right, boolean isDescending) {
        if (left[0] != right[0]) {
            return isDescending ? Integer.compare(right[0], left[0]) : Integer.compare(left[0], right[0]);
        }
        int byId = Integer.compare(left[1], right[1]);
        return byId != 0 ? byId : Integer.compare(left[2], right[2]);
    }

    int explodedAt(int column, boolean isDescending, int index, int part) {
        if (!isIn(column, 5)) {
            return NO_SUCH;
        }
        if (index < 0 || !isIn(part, 2)) {
            return BAD_VALUE;
        }
        List<int[]> all = entries(column);
        all.sort((left, right) -> order(left, right, isDescending));
        return index < all.size() ? all.get(index)[part] : NONE;
    }

    int total(int column, int list) {
        if (!isIn(column, 5) || !isIn(list, 7) && list != -1) {
            return NO_SUCH;
        }
        return entries(column).stream()
                .filter(entry -> list == -1 || state.lists.get(list).contains(entry[1]))
                .mapToInt(entry -> entry[0]).sum();
    }

    float mean(int column) {
        if (!isIn(column, 5)) {
            return -2000000.0f;
        }
        List<int[]> all = entries(column);
        return all.isEmpty() ? 0.0f : (float) total(column, -1) / (float) all.size();
    }

    int repeated(int column) {
        if (!isIn(column, 5)) {
            return NO_SUCH;
        }
        TreeMap<Integer, Integer> counts = new TreeMap<>();
        entries(column).forEach(entry -> counts.merge(entry[0], 1, Integer::sum));
        return (int) counts.values().stream().filter(count -> count > 1).count();
    }

    /** A record of the model. */
    private static final class Rec {
        Integer user = null;
        List<List<List<Integer>>> fields = new ArrayList<>();

        Rec() {
            for (int field = 0; field < 4; field++) {
                fields.add(new ArrayList<>());
            }
        }

        Rec copy() {
            Rec made = new Rec();
            made.user = user;
            for (int field = 0; field < 4; field++) {
                for (List<Integer> value : fields.get(field)) {
                    made.fields.get(field).add(new ArrayList<>(value));
                }
            }
            return made;
        }
    }

    /** The state of the model. */
    private static final class State {
        TreeMap<Integer, Rec> records = new TreeMap<>();
        TreeSet<Integer> associated = new TreeSet<>(List.of(1, 2));
        List<int[]> columns = new ArrayList<>();
        List<TreeSet<Integer>> lists = new ArrayList<>();

        static State first() {
            State made = new State();
            for (int field = 0; field < 4; field++) {
                made.columns.add(new int[] {0, field, 0});
            }
            made.columns.add(new int[] {1, 0, 0});
            made.columns.add(new int[] {4, 1, 2});
            for (int list = 0; list < 8; list++) {
                made.lists.add(new TreeSet<>());
            }
            return made;
        }

        State copy() {
            State made = new State();
            records.forEach((id, rec) -> made.records.put(id, rec.copy()));
            made.associated = new TreeSet<>(associated);
            columns.forEach(column -> made.columns.add(column.clone()));
            lists.forEach(list -> made.lists.add(new TreeSet<>(list)));
            return made;
        }
    }
}
