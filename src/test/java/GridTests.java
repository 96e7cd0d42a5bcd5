import java.lang.reflect.InvocationTargetException;
import java.lang.reflect.Method;
import java.util.ArrayList;
import java.util.Arrays;
import java.util.HashMap;
import java.util.List;
import java.util.Map;
import java.util.Set;

/**
 * Each method with all combinations of arguments at, just inside and just outside their bounds, in states
 * that are themselves at bounds. Each answer, and all that can be seen afterwards, is compared with a model.
 */
public final class GridTests {
    private static final int MOST_CALLS = 512;
    private static final int LOWEST = Integer.MIN_VALUE;
    private static final int HIGHEST = Integer.MAX_VALUE;
    private static final Set<String> CHANGES = Set.of("create", "delete", "lock", "unlock", "insert", "change",
            "remove", "removeLine", "load", "associate", "define", "select", "combine", "clearList",
            "append", "clearText", "print", "undo");
    private static final Map<String, Method> FILE_METHODS = methodsOf(MultiValueFile.class);
    private static final Map<String, Method> MODEL_METHODS = methodsOf(Model.class);

    private static long compared = 0;
    private static int wrong = 0;

    public static void main(String[] args) {
        for (Start start : starts()) {
            for (String method : FILE_METHODS.keySet().stream().sorted().toList()) {
                new Grid(start, method).run();
            }
        }
        System.out.println(compared + " answers compared, " + wrong + " not as due");
        if (wrong != 0) {
            System.exit(1);
        }
    }

    private static Map<String, Method> methodsOf(Class<?> type) {
        Map<String, Method> all = new HashMap<>();
        for (Method method : type.getDeclaredMethods()) {
            boolean isOfTheFace = Arrays.stream(MultiValueFile.class.getMethods())
                    .anyMatch(other -> other.getDeclaringClass() == MultiValueFile.class
                            && other.getName().equals(method.getName())
                            && Arrays.equals(other.getParameterTypes(), method.getParameterTypes()));
            if (isOfTheFace) {
                method.setAccessible(true);
                all.put(method.getName(), method);
            }
        }
        return all;
    }

    // ---- the states in which the calls are made

    /** A state, as the calls that lead to it, and the ids that are worth a call in it. */
    private record Start(String name, List<Object[]> calls, int[] ids) {
        void add(Object... call) {
            calls.add(call);
        }

        void type(String text) {
            add("clearText");
            for (char sign : text.toCharArray()) {
                add("append", (int) sign);
            }
        }

        void load(int id, String text) {
            add("create", id);
            type(text);
            add("load", 0, id);
        }
    }

    private static List<Start> starts() {
        return List.of(emptyFile(), emptyRecord(), fullFile(), fullRecord(), halfFullRecords(),
                noAssociatedField(), allFieldsAssociated(), fullText(), undoneHistory(), goneIds());
    }

    private static Start start(String name, int... ids) {
        return new Start(name, new ArrayList<>(), ids);
    }

    private static Start emptyFile() {
        return start("an empty file", 0, 99);
    }

    private static Start emptyRecord() {
        Start made = start("an empty record", 0, 99);
        made.add("create", 0);
        made.add("print", 0);
        made.type("^^^");
        return made;
    }

    private static Start fullFile() {
        Start made = start("ten records, each with a lock or none", 0, 5, 8, 99);
        made.load(99, "1]2^3^^4");
        made.load(0, "-1/7^^^");
        for (int id = 8; id >= 1; id--) {
            made.add("create", id);
            made.add("lock", id % 4, id);
        }
        made.add("unlock", 3, 7);
        made.add("print", 99);
        made.add("select", 4, 1, 0, true, 7);
        return made;
    }

    private static Start fullRecord() {
        Start made = start("a record with all values and subvalues", 0, 50, 99);
        String field = "1/2/3/4]5/6/7/8]9/0/1/2]3/4/5/6]7/8/9/0";
        made.load(50, field + "^^^" + field);
        for (int associated = 1; associated <= 2; associated++) {
            for (int value = 0; value < 5; value++) {
                made.add("insert", 1, 50, associated, value, -1, -999);
                for (int sub = 1; sub < 4; sub++) {
                    made.add("insert", 1, 50, associated, value, sub, 999 * (sub % 2));
                }
            }
        }
        made.add("select", 0, 2, 8, false, 0);
        made.add("lock", 3, 50);
        return made;
    }

    private static Start halfFullRecords() {
        Start made = start("three records, one of them locked", 3, 4, 98);
        made.load(98, "5]5/4^1]2]3^4/4/4/4]5^");
        made.load(3, "5^9^9/8]7]6^1]2]3]4]5");
        made.load(4, "^2]2]2]2]2/2/2^^-999/999");
        made.add("lock", 0, 4);
        made.add("print", 98);
        made.add("select", 0, 1, 5, false, 0);
        made.add("select", 0, 1, 5, true, 7);
        made.add("define", 0, 2, 1, 0);
        made.add("define", 5, 4, 2, 3);
        return made;
    }

    private static Start noAssociatedField() {
        Start made = start("no associated field", 0, 1);
        made.load(0, "1]2^1^1]2]3^1/2");
        made.add("associate", 1, false);
        made.add("associate", 2, false);
        made.add("define", 0, 3, 0, 3);
        made.add("define", 5, 1, 2, 0);
        made.type("1/2/3/4/5^^^");
        return made;
    }

    private static Start allFieldsAssociated() {
        Start made = start("four associated fields", 0, 1);
        made.load(0, "1]2^3]3]3]3]3^^4/5]6/7/8]9/9/9/9");
        made.add("create", 1);
        made.add("associate", 0, true);
        made.add("associate", 3, true);
        made.add("lock", 2, 1);
        made.add("define", 4, 3, 3, 3);
        made.type("1]2]3]4]5]6^^^");
        return made;
    }

    private static Start fullText() {
        Start made = start("a text of ninety characters", 0, 99);
        made.add("create", 0);
        made.add("lock", 3, 0);
        made.type("-999/-998/-997/-996]-95/0/1/2]3^-999/-998/-997/-996]10^1]2]3]4]5^-1/-2/-3]400]500]60]1/2/3");
        return made;
    }

    private static Start undoneHistory() {
        Start made = start("a history of one", 0, 9);
        made.load(9, "1^2^3^4");
        made.load(0, "^1]2^^");
        for (int time = 0; time < 5; time++) {
            made.add("change", 0, 9, 0, 0, 0, time);
        }
        for (int time = 0; time < 3; time++) {
            made.add("undo");
        }
        made.type("^^");
        return made;
    }

    private static Start goneIds() {
        Start made = start("lists with ids of which there is no record", 0, 11, 22);
        for (int id = 0; id < 24; id++) {
            made.add("create", id);
            made.add("select", 4, 1, 0, false, 1 + id % 2);
            made.add("combine", 1, 0, 1 + id % 2, 0);
            if (id != 22) {
                made.add("delete", 0, id);
            }
        }
        made.add("combine", 2, 0, 2, 7);
        made.type("^^^0");
        return made;
    }

    // ---- the arguments with which the calls are made

    private static int[] ints(int... all) {
        return all;
    }

    private static int[] idsOf(Start start) {
        int[] all = Arrays.copyOf(start.ids(), start.ids().length + 4);
        int behind = start.ids().length;
        all[behind] = -1;
        all[behind + 1] = 100;
        all[behind + 2] = LOWEST;
        all[behind + 3] = HIGHEST;
        return all;
    }

    private static int[][] edges(Start start, String method) {
        int[] users = ints(-1, 0, 3, 4);
        int[] ids = idsOf(start);
        int[] fields = ints(-1, 0, 1, 2, 3, 4);
        int[] places = ints(-1, 0, 1, 2, 3, 4, 5, 6, LOWEST, HIGHEST);
        int[] subs = ints(-2, -1, 0, 1, 3, 4, 5, LOWEST, HIGHEST);
        int[] numbers = ints(-1000, -999, 999, 1000);
        int[] columns = ints(-1, 0, 1, 2, 3, 4, 5, 6, LOWEST, HIGHEST);
        int[] lists = ints(-1, 0, 1, 6, 7, 8);
        int[] choices = ints(-1, 0, 1, 2, 3, LOWEST, HIGHEST);
        int[] farPlaces = ints(-1, 0, 1, 2, 3, 4, 9, 10, 19, 20, 79, 80, 200, LOWEST, HIGHEST);
        int[] wide = ints(-1000001, -1000000, 0, 5, 1000000, 1000001, LOWEST, HIGHEST);
        switch (method) {
            case "create", "print", "locker", "lines":
                return new int[][] {withMore(ids)};
            case "delete", "lock", "unlock", "load":
                return new int[][] {ints(-1, 0, 1, 2, 3, 4, LOWEST, HIGHEST), withMore(ids)};
            case "insert", "change":
                return new int[][] {users, ids, fields, places, subs, numbers};
            case "remove":
                return new int[][] {users, ids, fields, places, subs};
            case "removeLine":
                return new int[][] {users, ids, places};
            case "associate":
                return new int[][] {ints(-1, 0, 1, 2, 3, 4, LOWEST, HIGHEST), null};
            case "define":
                return new int[][] {columns, ints(-1, 0, 1, 2, 3, 4, 5, LOWEST, HIGHEST), fields, fields};
            case "select":
                return new int[][] {columns, choices, wide, null, lists};
            case "combine":
                return new int[][] {choices, lists, lists, lists};
            case "clearList", "listSize":
                return new int[][] {ints(-1, 0, 1, 2, 3, 4, 5, 6, 7, 8, LOWEST, HIGHEST)};
            case "append":
                return new int[][] {ints(-1, 31, 32, '-', '/', '0', '1', '9', ']', '^', 126, 127, 256 + '1', LOWEST, HIGHEST)};
            case "printed":
                return new int[][] {ints(-1, 0, 1, 2, 3, 11, 12, 13, 21, 22, 23, 89, 90, LOWEST, HIGHEST)};
            case "recordAt":
                return new int[][] {farPlaces};
            case "values":
                return new int[][] {ids, ints(-1, 0, 1, 2, 3, 4, LOWEST, HIGHEST)};
            case "subvalues":
                return new int[][] {ids, fields, places};
            case "get":
                return new int[][] {ids, fields, places, subs};
            case "locate":
                return new int[][] {ids, fields, ints(-1000, -999, -1, 0, 1, 2, 5, 9, 999, 1000, LOWEST, HIGHEST)};
            case "column":
                return new int[][] {columns, choices};
            case "associated":
                return new int[][] {ints(-1, 0, 1, 2, 3, 4, LOWEST, HIGHEST)};
            case "listAt":
                return new int[][] {ints(-1, 0, 1, 2, 7, 8), ints(-1, 0, 1, 9, 10, 11, 12, 23, 24, 99, 100, LOWEST, HIGHEST)};
            case "numbers":
                return new int[][] {ids, columns};
            case "numberAt":
                return new int[][] {ids, columns, farPlaces};
            case "exploded", "mean", "repeated":
                return new int[][] {columns};
            case "explodedAt":
                return new int[][] {columns, null, farPlaces, choices};
            case "total":
                return new int[][] {columns, ints(-2, -1, 0, 1, 2, 7, 8, LOWEST, HIGHEST)};
            default:
                return new int[0][];
        }
    }

    private static int[] withMore(int[] ids) {
        int[] all = Arrays.copyOf(ids, ids.length + 3);
        all[ids.length] = 1;
        all[ids.length + 1] = 10;
        all[ids.length + 2] = -1000007;
        return all;
    }

    // ---- the calls

    private static Object call(Method method, Object target, Object... arguments) {
        try {
            return method.invoke(target, arguments);
        } catch (IllegalAccessException | InvocationTargetException refused) {
            throw new IllegalStateException(method.getName() + Arrays.toString(arguments), refused);
        }
    }

    /** A file and a model to which the same is done. */
    private static final class Both {
        private final MultiValueFile file = new MultiValueFile();
        private final Model model = new Model();
        private final List<Object> run = new ArrayList<>();
        private int calls = 0;

        int make(String method, Object... arguments) {
            calls++;
            if (calls > MOST_CALLS) {
                throw new IllegalStateException("a file is called too often");
            }
            run.add(method);
            run.add(arguments);
            Object got = call(FILE_METHODS.get(method), file, arguments);
            Object want = call(MODEL_METHODS.get(method), model, arguments);
            compared++;
            if (!got.equals(want)) {
                wrong++;
                System.out.println(got + " where " + want + " is due, at the end of " + runText());
                if (wrong > 20) {
                    System.exit(1);
                }
            }
            return want instanceof Integer number ? number : 0;
        }

        private String runText() {
            StringBuilder text = new StringBuilder();
            for (Object part : run) {
                text.append(part instanceof Object[] arguments ? Arrays.toString(arguments) + " " : part);
            }
            return text.toString();
        }

        boolean hasRoomFor(int more) {
            return calls + more <= MOST_CALLS;
        }

        void seeRecord(int id) {
            make("locker", id);
            for (int field = 0; field < 4; field++) {
                int values = make("values", id, field);
                for (int value = 0; value < values; value++) {
                    int subs = make("subvalues", id, field, value);
                    for (int sub = 0; sub < subs; sub++) {
                        make("get", id, field, value, sub);
                    }
                }
            }
        }

        void seeRecords() {
            int records = make("records");
            for (int place = 0; place < records; place++) {
                seeRecord(make("recordAt", place));
            }
        }

        void seeDictionary() {
            for (int field = 0; field < 4; field++) {
                make("associated", field);
            }
            for (int column = 0; column < 6; column++) {
                for (int what = 0; what < 3; what++) {
                    make("column", column, what);
                }
            }
        }

        void seeLists() {
            for (int list = 0; list < 8; list++) {
                int size = make("listSize", list);
                for (int place = 0; place < size; place++) {
                    make("listAt", list, place);
                }
            }
        }

        void seeTexts() {
            make("fault");
            int length = model.printedText().length();
            for (int index = 0; index <= length; index++) {
                make("printed", index);
            }
            make("load", 0, make("recordAt", 0));
            make("exploded", 0);
            make("clearText");
        }

        // The sums tell states apart that differ in a number.
        void seeHistory() {
            for (int left = make("undo"); left >= 0; left = make("undo")) {
                int records = make("records");
                for (int place = 0; place < records; place++) {
                    make("locker", make("recordAt", place));
                }
                for (int column = 0; column < 6; column++) {
                    make("column", column, 0);
                    make("total", column, -1);
                }
                for (int list = 0; list < 8; list++) {
                    make("listSize", list);
                }
            }
        }
    }

    /** All calls of one method that start from one state. */
    private static final class Grid {
        private static final int VIEWS = 5;
        private static final int MOST_IDLE = 60;
        private final Start start;
        private final String method;
        private final int[][] edges;
        private final Object[] arguments;
        private final List<Object[]> idle = new ArrayList<>();
        private Both probe = null;

        Grid(Start start, String method) {
            this.start = start;
            this.method = method;
            edges = edges(start, method);
            arguments = new Object[edges.length];
            if (edges.length != FILE_METHODS.get(method).getParameterCount()) {
                throw new IllegalStateException("no arguments are set for " + method);
            }
        }

        void run() {
            choose(0);
            seeAfter(idle);
        }

        private void choose(int place) {
            if (place == edges.length) {
                callNow();
                return;
            }
            if (edges[place] == null) {
                arguments[place] = false;
                choose(place + 1);
                arguments[place] = true;
                choose(place + 1);
                return;
            }
            for (int argument : edges[place]) {
                arguments[place] = argument;
                choose(place + 1);
            }
        }

        /** Calls that change nothing are kept, so that some of them are made before all is looked at. */
        private void callNow() {
            if (probe == null || !probe.hasRoomFor(1)) {
                probe = begin();
            }
            int answer = probe.make(method, arguments);
            if (answer < -1000000 || !CHANGES.contains(method)) {
                idle.add(arguments.clone());
                if (idle.size() >= MOST_IDLE) {
                    seeAfter(idle);
                }
            } else {
                probe = null;
                seeAfter(List.<Object[]>of(arguments.clone()));
            }
        }

        private Both begin() {
            Both made = new Both();
            for (Object[] call : start.calls()) {
                made.make((String) call[0], Arrays.copyOfRange(call, 1, call.length));
            }
            return made;
        }

        /** Each view is of a new file, as one alone may not be called often enough. */
        private void seeAfter(List<Object[]> calls) {
            for (int view = 0; view < VIEWS; view++) {
                Both made = begin();
                calls.forEach(call -> made.make(method, call));
                switch (view) {
                    case 0 -> made.seeRecords();
                    case 1 -> made.seeDictionary();
                    case 2 -> made.seeLists();
                    case 3 -> made.seeTexts();
                    default -> made.seeHistory();
                }
            }
            if (calls == idle) {
                idle.clear();
            }
        }
    }
}
