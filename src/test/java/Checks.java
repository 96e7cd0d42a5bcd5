import java.util.function.ToIntFunction;

/** What the tests of answers share: checks that are counted, and ways to make files and to see into them. */
abstract class Checks {
    static final int NO_SUCH = -1000001;
    static final int BAD_VALUE = -1000002;
    static final int BAD_TEXT = -1000003;
    static final int TOO_MANY = -1000004;
    static final int NOT_POSSIBLE = -1000005;
    static final int LOCKED = -1000006;
    static final int NONE = -1000007;
    static final int LOWEST = Integer.MIN_VALUE;
    static final int HIGHEST = Integer.MAX_VALUE;
    // Far above what a list or a text can hold, so that a loop over a wrong one ends, too.
    private static final int FAR = 1000;

    private static String asked = "";
    private static int checked = 0;
    private static int wrong = 0;

    // ---- the checks

    /** What the document asks in the checks that follow. */
    static void asks(String sentence) {
        asked = sentence;
    }

    static void finish() {
        System.out.println(checked - wrong + " answers as due, " + wrong + " not");
        if (wrong != 0) {
            System.exit(1);
        }
    }

    private static void check(boolean isRight, String call, String got, String want) {
        checked++;
        if (!isRight) {
            wrong++;
            System.out.println(asked + ": " + call + " answered " + got + ", due is " + want);
        }
    }

    static void due(String call, int got, int want) {
        check(got == want, call, String.valueOf(got), String.valueOf(want));
    }

    static void dueFloat(String call, float got, float want) {
        check(Float.compare(got, want) == 0, call, String.valueOf(got), String.valueOf(want));
    }

    static void dueText(String call, String got, String want) {
        check(got.equals(want), call, got, want);
    }

    /** The call must answer this, be it an error or not, and change nothing: no state, no text and no history. */
    static void refused(String call, CountedFile x, ToIntFunction<CountedFile> made, int want) {
        String before = whole(x);
        due(call, made.applyAsInt(x), want);
        dueText(call + " changes nothing", whole(x), before);
    }

    /** A call of which one argument is put in later. */
    interface Call {
        int of(CountedFile x, int argument);
    }

    /** The call must be refused with each of these arguments. */
    static void allRefused(String call, CountedFile x, Call made, int want, int... arguments) {
        for (int argument : arguments) {
            refused(call + " with " + argument, x, f -> made.of(f, argument), want);
        }
    }

    /** The call must answer this with each of these arguments, each time as the first one behind what was. */
    static void allDue(String call, CountedFile x, Call made, int want, int... arguments) {
        for (int argument : arguments) {
            due(call + " with " + argument, made.of(x.twin(), argument), want);
        }
    }

    // ---- ways to make files

    static void type(CountedFile x, String text) {
        x.clearText();
        for (char sign : text.toCharArray()) {
            x.append(sign);
        }
    }

    static void add(CountedFile x, int id, String text) {
        x.create(id);
        type(x, text);
        x.load(0, id);
        x.clearText();
    }

    static CountedFile fileWith(int id, String text) {
        CountedFile x = new CountedFile();
        add(x, id, text);
        return x;
    }

    // ---- ways to see into files

    static String printedOf(CountedFile x) {
        StringBuilder signs = new StringBuilder();
        for (int index = 0; index < FAR && x.printed(index) != NONE; index++) {
            signs.append((char) x.printed(index));
        }
        return signs.toString();
    }

    static String textOf(CountedFile x, int id) {
        CountedFile twin = x.twin();
        twin.print(id);
        return printedOf(twin);
    }

    static String idsOf(CountedFile x) {
        StringBuilder ids = new StringBuilder();
        for (int place = 0; place < FAR && x.recordAt(place) != NONE; place++) {
            ids.append(x.recordAt(place)).append(' ');
        }
        return ids.toString().trim();
    }

    static String listOf(CountedFile x, int list) {
        StringBuilder ids = new StringBuilder();
        for (int place = 0; place < FAR && x.listAt(list, place) != NONE; place++) {
            ids.append(x.listAt(list, place)).append(' ');
        }
        return ids.toString().trim();
    }

    static String numbersOf(CountedFile x, int id, int column) {
        StringBuilder row = new StringBuilder();
        for (int place = 0; place < x.numbers(id, column); place++) {
            row.append(x.numberAt(id, column, place)).append(' ');
        }
        return row.toString().trim();
    }

    /** Each entry as its number, then "@" and the id of its record, then "." and its place. */
    static String explodedOf(CountedFile x, int column, boolean isDescending) {
        StringBuilder row = new StringBuilder();
        for (int index = 0; index < x.exploded(column); index++) {
            row.append(x.explodedAt(column, isDescending, index, 0)).append('@');
            row.append(x.explodedAt(column, isDescending, index, 1)).append('.');
            row.append(x.explodedAt(column, isDescending, index, 2)).append(' ');
        }
        return row.toString().trim();
    }

    static String fieldOf(CountedFile x, int id, int field) {
        StringBuilder row = new StringBuilder();
        for (int value = 0; value < x.values(id, field); value++) {
            row.append(value > 0 ? "]" : "");
            for (int sub = 0; sub < x.subvalues(id, field, value); sub++) {
                row.append(sub > 0 ? "/" : "").append(x.get(id, field, value, sub));
            }
        }
        return row.toString();
    }

    /** All that belongs to the state. */
    static String stateOf(CountedFile x) {
        StringBuilder all = new StringBuilder();
        for (int place = 0; place < x.records(); place++) {
            int id = x.recordAt(place);
            all.append(id).append(" locked by ").append(x.locker(id)).append(": ");
            for (int field = 0; field < 4; field++) {
                all.append(fieldOf(x, id, field)).append('^');
            }
        }
        for (int field = 0; field < 4; field++) {
            all.append(" a").append(x.associated(field));
        }
        for (int column = 0; column < 6; column++) {
            all.append(" c").append(x.column(column, 0)).append(x.column(column, 1)).append(x.column(column, 2));
        }
        for (int list = 0; list < 8; list++) {
            all.append(" l(").append(listOf(x, list)).append(')');
        }
        return all.toString();
    }

    /** The states of the history, the latest one first. */
    static String historyOf(CountedFile x) {
        CountedFile twin = x.twin();
        StringBuilder all = new StringBuilder();
        int left = twin.undo();
        for (int time = 0; time < 10 && left != NONE; time++) {
            all.append(left).append(": ").append(stateOf(twin)).append('\n');
            left = twin.undo();
        }
        return all.toString();
    }

    /** How many states can be undone. */
    static int statesOf(CountedFile x) {
        CountedFile twin = x.twin();
        int undone = 0;
        while (undone < 10 && twin.undo() != NONE) {
            undone++;
        }
        return undone;
    }

    /** The text's length and fault; and if it has no fault, what it loads. */
    static String typedOf(CountedFile x) {
        CountedFile twin = x.twin();
        String loaded = "";
        if (twin.fault() == NONE && twin.records() > 0) {
            int id = twin.recordAt(0);
            twin.load(Math.max(0, twin.locker(id)), id);
            loaded = textOf(twin, id);
        }
        return loaded + " " + twin.fault() + " " + twin.clearText();
    }

    /** All that calls can change. */
    static String whole(CountedFile x) {
        return stateOf(x) + "\nprinted " + printedOf(x) + "\ntext " + typedOf(x) + "\nhistory " + historyOf(x);
    }
}
