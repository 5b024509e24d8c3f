import java.util.ArrayList;
import java.util.List;

/**
 * One sentence of the document and a row of calls on a new register that shows it. A call is written
 * as "pass(3)", which must be answered, "pass(3) = 3" with the answer that is due, or "pass(0) : I"
 * with the first letter of the exception that is due (B for IndexOutOfBoundsException, N for
 * NoSuchElementException). Of each call that is refused it is looked at too that nothing changed by it.
 */
final class Story {
    private record Row(String text, String name, int[] parameters, Object due) {
        boolean isRefused() {
            return due instanceof Class;
        }
    }

    private final Check check;
    private final String sentence;
    private final List<Row> rows = new ArrayList<>();

    Story(Check check, String sentence) {
        this.check = check;
        this.sentence = sentence;
    }

    Story calls(String... texts) {
        for (String text : texts) {
            rows.add(read(text));
        }
        return this;
    }

    /** A call for each number, in which # stands for the number and @ for the next one. */
    Story each(int first, int last, String text) {
        for (int number = first; number <= last; number++) {
            calls(text.replace("#", "" + number).replace("@", "" + (number + 1)));
        }
        return this;
    }

    void end() {
        if (rows.size() > Calls.MOST) {
            throw new AssertionError(sentence + ": too many calls");
        }
        FoundRegister x = new FoundRegister();
        for (Row row : rows) {
            Object got = Calls.answer(x, row.name, row.parameters);
            if (row.due != null) {
                check.due(sentence + ": " + row.text, row.due, got);
            } else {
                check.due(sentence + ": " + row.text + " is answered", false, got instanceof Class);
            }
        }
        for (int place = 0; place < rows.size(); place++) {
            if (rows.get(place).isRefused()) {
                check.due(sentence + ": what later calls show after " + rows.get(place).text,
                        seenAfter(place, false), seenAfter(place, true));
            }
        }
    }

    private List<String> seenAfter(int last, boolean withLast) {
        FoundRegister x = new FoundRegister();
        for (int place = 0; place < last; place++) {
            Calls.answer(x, rows.get(place).name, rows.get(place).parameters);
        }
        if (withLast) {
            Calls.answer(x, rows.get(last).name, rows.get(last).parameters);
        }
        return Snapshot.of(x, last + 1);
    }

    private static Row read(String text) {
        int open = text.indexOf('(');
        int close = text.indexOf(')');
        String inside = text.substring(open + 1, close).replace(" ", "");
        String[] written = inside.isEmpty() ? new String[0] : inside.split(",");
        int[] parameters = new int[written.length];
        for (int place = 0; place < written.length; place++) {
            parameters[place] = number(written[place]);
        }
        return new Row(text, text.substring(0, open), parameters, due(text.substring(close + 1).trim()));
    }

    private static int number(String written) {
        switch (written) {
            case "MIN": return Integer.MIN_VALUE;
            case "MAX": return Integer.MAX_VALUE;
            default: return Integer.parseInt(written);
        }
    }

    private static Object due(String written) {
        if (written.isEmpty()) {
            return null;
        }
        String answer = written.substring(1).trim();
        if (written.charAt(0) == ':' && answer.length() == 1) {
            return Calls.exception(answer.charAt(0));
        }
        if (written.charAt(0) != '=') {
            throw new AssertionError("no answer: " + written);
        }
        if (answer.equals("true") || answer.equals("false")) {
            return answer.equals("true");
        }
        return number(answer);
    }
}
