/** Texts: all short ones, and longer ones about the limits of fields, values and numbers, against the model. */
public final class TextTests extends Checks {
    private static final String SIGNS = "019-/]^";
    private static final int SHORT = 5;

    public static void main(String[] args) {
        asks("the fault of a short text");
        goOn("");
        asks("the fault of a text about the limits of values and numbers");
        limits();
        asks("a number in a text");
        allNumbers();
        finish();
    }

    /** What the model does with the text. */
    private static Model modelWith(String text) {
        Model model = new Model();
        model.create(1);
        for (char sign : text.toCharArray()) {
            model.append(sign);
        }
        return model;
    }

    /** Whether the text has no fault ahead of its end. */
    private static boolean compare(String text) {
        MultiValueFile x = new MultiValueFile();
        x.create(1);
        for (int index = 0; index < text.length(); index++) {
            due("append in " + text, x.append(text.charAt(index)), index + 1);
        }
        Model model = modelWith(text);
        int fault = model.fault();
        due("fault of " + text, x.fault(), fault);
        due("load of " + text, x.load(0, 1), model.load(0, 1));
        due("print of " + text, x.print(1), model.print(1));
        for (int index = 0; index <= model.printedText().length(); index++) {
            due("printed(" + index + ") of " + text, x.printed(index), model.printed(index));
        }
        due("the length of " + text, x.clearText(), text.length());
        return fault == NONE || fault == text.length();
    }

    /** Every sign behind a beginning, then the same behind each of those that are beginnings themselves. */
    private static void goOn(String begin) {
        if (!compare(begin) || begin.length() > SHORT) {
            return;
        }
        for (char sign = 32; sign < 127; sign++) {
            if (SIGNS.indexOf(sign) >= 0) {
                goOn(begin + sign);
            } else if (begin.length() < 3) {
                compare(begin + sign);
            }
        }
    }

    private static String repeated(String part, int times, String between) {
        StringBuilder all = new StringBuilder();
        for (int time = 0; time < times; time++) {
            all.append(time > 0 ? between : "").append(part);
        }
        return all.toString();
    }

    private static void limits() {
        for (int field = 0; field <= 4; field++) {
            for (int values = 1; values <= 6; values++) {
                for (int numbers = 1; numbers <= 5; numbers++) {
                    String carets = "^".repeat(field);
                    String rest = "^".repeat(Math.max(0, 3 - field));
                    String last = repeated("8", numbers, "/");
                    String before = repeated("-7/6", values - 1, "]");
                    String text = carets + before + (values > 1 ? "]" : "") + last;
                    compare(text);
                    compare(text + "]");
                    compare(text + "/");
                    compare(text + rest);
                    compare(text + rest + "^");
                    compare(carets + repeated(last, values, "]") + rest);
                }
            }
        }
    }

    private static void allNumbers() {
        for (int number = -1001; number <= 1001; number++) {
            compare("^" + number + "^^");
            compare(number + "/" + number + "^^^" + number + "]" + number);
        }
        for (String number : new String[] {"-0", "00", "-00", "01", "-01", "001", "0001", "000", "010", "-", "--1", "1-"}) {
            compare(number);
            compare(number + "^^^");
            compare("5/" + number + "^^^");
            compare("^5]" + number + "^^");
        }
    }
}
