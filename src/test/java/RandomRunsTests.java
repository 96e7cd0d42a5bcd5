import java.util.Random;

/** Runs of 512 calls by fixed seeds, each answer compared with that of a plain model. */
public final class RandomRunsTests {
    private static final int RUNS = 1500;
    private static final int CALLS = 512;

    public static void main(String[] args) {
        for (int seed = 1; seed <= RUNS; seed++) {
            String wrong = new Run(seed).firstWrong();
            if (wrong != null) {
                System.out.println("seed " + seed + ": " + wrong);
                System.exit(1);
            }
        }
        System.out.println(RUNS + " runs of " + CALLS + " calls, all answers as due");
    }

    /** One run of calls on the object and on the model. */
    private static final class Run {
        private final Random random;
        private final MultiValueFile x = new MultiValueFile();
        private final Model model = new Model();
        private final int idCount;
        private final int wrongShare;
        private String typed = "";
        private String wrong = null;
        private int calls = 0;

        Run(int seed) {
            random = new Random(seed);
            idCount = random.nextBoolean() ? 4 : 14;
            wrongShare = random.nextBoolean() ? 60 : 15;
        }

        String firstWrong() {
            int creates = random.nextInt(11);
            for (int time = 0; time < creates; time++) {
                int id = id();
                compare("create " + id, x.create(id), model.create(id));
            }
            while (wrong == null && calls < CALLS) {
                // The last ones are of kinds that make one call alone, as no answer behind them is promised.
                if (calls > CALLS - 3) {
                    callViews();
                } else {
                    call();
                }
            }
            return wrong;
        }

        private void compare(String call, int got, int want) {
            compare(call, got == want, got + ", due is " + want);
        }

        private void compare(String call, float got, float want) {
            compare(call, Float.compare(got, want) == 0, got + ", due is " + want);
        }

        private void compare(String call, boolean isRight, String answers) {
            calls++;
            if (!isRight && wrong == null) {
                wrong = "call " + calls + ", " + call + ", answered " + answers;
            }
        }

        private int wild(int usual) {
            if (random.nextInt(wrongShare) != 0) {
                return usual;
            }
            int[] edges = {-1, -2, -1000, -1000001, 1000, 1000001, 4, 5, 6, 8, 31, 100, 127,
                Integer.MIN_VALUE, Integer.MAX_VALUE};
            return edges[random.nextInt(edges.length)];
        }

        private int below(int limit) {
            return wild(random.nextInt(limit));
        }

        private int id() {
            return wild(random.nextInt(idCount) * 99 / (idCount - 1));
        }

        private int number() {
            return wild(random.nextInt(3) == 0 ? random.nextInt(1999) - 999 : random.nextInt(7) - 3);
        }

        private int user() {
            return random.nextInt(3) == 0 ? below(4) : 0;
        }

        private void call() {
            int kind = random.nextInt(20);
            if (kind < 1) {
                callLocks();
            } else if (kind < 6) {
                callChanges();
            } else if (kind < 8) {
                callDictionary();
            } else if (kind < 12) {
                callText();
            } else if (kind < 15) {
                callViews();
            } else if (kind < 16) {
                callSmallViews();
            } else {
                callComputed();
            }
        }

        private void callLocks() {
            int user = user();
            int id = id();
            switch (random.nextInt(4)) {
                case 0 -> compare("create " + id, x.create(id), model.create(id));
                case 1 -> compare("delete " + id, x.delete(user, id), model.delete(user, id));
                case 2 -> compare("lock " + id, x.lock(user, id), model.lock(user, id));
                default -> compare("unlock " + id, x.unlock(user, id), model.unlock(user, id));
            }
        }

        private void callChanges() {
            int u = user();
            int id = id();
            int f = below(4);
            int v = random.nextInt(3) == 0 ? below(7) : below(3);
            int s = below(5);
            int n = number();
            String at = u + " " + id + " " + f + " " + v + " " + s + " " + n;
            int subOrWhole = random.nextInt(5) < 2 ? -1 : s;
            switch (random.nextInt(12)) {
                case 0, 1, 2, 3, 4, 5 -> compare("insert " + at + " " + subOrWhole,
                        x.insert(u, id, f, v, subOrWhole, n), model.insert(u, id, f, v, subOrWhole, n));
                case 6, 7 -> compare("change " + at, x.change(u, id, f, v, s, n), model.change(u, id, f, v, s, n));
                case 8 -> compare("remove " + at + " " + subOrWhole,
                        x.remove(u, id, f, v, subOrWhole), model.remove(u, id, f, v, subOrWhole));
                case 9 -> compare("removeLine " + at, x.removeLine(u, id, v), model.removeLine(u, id, v));
                default -> compare("load " + at, x.load(u, id), model.load(u, id));
            }
        }

        private void callDictionary() {
            int c = below(6);
            int first = below(4);
            int second = below(4);
            int test = below(3);
            int n = random.nextInt(4) == 0 ? wild(random.nextInt(2000001) - 1000000) : number();
            boolean is = random.nextBoolean();
            int a = below(8);
            int b = below(8);
            int list = below(8);
            int kind = below(5);
            switch (random.nextInt(8)) {
                case 0 -> compare("associate " + first, x.associate(first, is), model.associate(first, is));
                case 1 -> compare("define " + c, x.define(c, kind, first, second),
                        model.define(c, kind, first, second));
                case 2, 3, 4 -> compare("select " + c, x.select(c, test, n, is, list),
                        model.select(c, test, n, is, list));
                case 5, 6 -> compare("combine " + test, x.combine(test, a, b, list),
                        model.combine(test, a, b, list));
                default -> compare("clearList " + list, x.clearList(list), model.clearList(list));
            }
        }

        // Mostly the next sign of a text that is or nearly is right, else a sign by chance.
        private int nextSign() {
            if (random.nextInt(80) == 0) {
                return "-/]^0123456789 x".charAt(random.nextInt(16));
            }
            if (typed.isEmpty()) {
                typed = someText();
            }
            int sign = typed.charAt(0);
            typed = typed.substring(1);
            return sign;
        }

        private String someText() {
            StringBuilder made = new StringBuilder();
            int mostValues = random.nextInt(5) == 0 ? 7 : 3;
            int mostSubs = random.nextInt(5) == 0 ? 6 : 3;
            for (int field = 0; field < 4; field++) {
                made.append(field > 0 ? "^" : "");
                int values = random.nextInt(mostValues);
                for (int value = 0; value < values; value++) {
                    made.append(value > 0 ? "]" : "");
                    int subs = 1 + random.nextInt(mostSubs);
                    for (int sub = 0; sub < subs; sub++) {
                        made.append(sub > 0 ? "/" : "").append(number());
                    }
                }
            }
            return made.toString();
        }

        private void callText() {
            int id = id();
            switch (random.nextInt(40)) {
                case 0 -> {
                    int sign = wild(random.nextInt(160));
                    compare("append " + sign, x.append(sign), model.append(sign));
                }
                case 1 -> {
                    typed = "";
                    compare("clearText", x.clearText(), model.clearText());
                }
                case 2, 3, 4 -> compare("fault of " + model.typed(), x.fault(), model.fault());
                case 5, 6, 7 -> callPrint(id);
                case 8, 9 -> compare("undo", x.undo(), model.undo());
                case 10, 11, 12, 13 -> typeAll();
                default -> {
                    int sign = nextSign();
                    compare("append " + sign, x.append(sign), model.append(sign));
                }
            }
        }

        private void callPrint(int id) {
            int length = model.print(id);
            compare("print " + id, x.print(id), length);
            int index = below(length < 0 ? 30 : length + 2);
            compare("printed " + index, x.printed(index), model.printed(index));
        }

        // A whole text at once, so that many records are loaded.
        private void typeAll() {
            compare("clearText", x.clearText(), model.clearText());
            String all = someText();
            for (int index = 0; index < all.length() && calls < CALLS - 1; index++) {
                compare("append", x.append(all.charAt(index)), model.append(all.charAt(index)));
            }
            typed = "";
            int id = id();
            compare("load of " + all, x.load(0, id), model.load(0, id));
        }

        private void callViews() {
            int id = id();
            int f = below(4);
            int v = below(6);
            int s = below(5);
            int n = number();
            switch (random.nextInt(7)) {
                case 0 -> compare("values", x.values(id, f), model.values(id, f));
                case 1 -> compare("subvalues", x.subvalues(id, f, v), model.subvalues(id, f, v));
                case 2, 3 -> compare("get", x.get(id, f, v, s), model.get(id, f, v, s));
                case 4 -> compare("lines", x.lines(id), model.lines(id));
                case 5 -> compare("locate " + n, x.locate(id, f, n), model.locate(id, f, n));
                default -> compare("locker", x.locker(id), model.locker(id));
            }
        }

        private void callSmallViews() {
            int list = below(8);
            int place = below(11);
            int c = below(6);
            int what = below(3);
            int f = below(4);
            switch (random.nextInt(6)) {
                case 0 -> compare("records", x.records(), model.records());
                case 1 -> compare("recordAt " + place, x.recordAt(place), model.recordAt(place));
                case 2 -> compare("column", x.column(c, what), model.column(c, what));
                case 3 -> compare("associated", x.associated(f), model.associated(f));
                case 4 -> compare("listSize", x.listSize(list), model.listSize(list));
                default -> compare("listAt", x.listAt(list, place), model.listAt(list, place));
            }
        }

        private void callComputed() {
            int id = id();
            int c = below(6);
            int place = random.nextInt(3) == 0 ? below(22) : below(5);
            int index = below(random.nextBoolean() ? 8 : 60);
            int part = below(3);
            boolean is = random.nextBoolean();
            int list = random.nextInt(3) == 0 ? -1 : below(8);
            switch (random.nextInt(9)) {
                case 0 -> compare("numbers", x.numbers(id, c), model.numbers(id, c));
                case 1 -> compare("numberAt", x.numberAt(id, c, place), model.numberAt(id, c, place));
                case 2 -> compare("exploded", x.exploded(c), model.exploded(c));
                case 3, 4, 5 -> compare("explodedAt", x.explodedAt(c, is, index, part),
                        model.explodedAt(c, is, index, part));
                case 6 -> compare("total", x.total(c, list), model.total(c, list));
                case 7 -> compare("mean", x.mean(c), model.mean(c));
                default -> compare("repeated", x.repeated(c), model.repeated(c));
            }
        }
    }
}
