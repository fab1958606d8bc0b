import java.util.TreeSet;
import java.util.regex.Matcher;
import java.util.regex.Pattern;

/**
 * Runs of calls on new houses, told as texts, a call a line: "put(0, 25, 1) = 2", or "put(0, 25, 99) =
 * throws.IllegalArgumentException". A line without an answer is called, and must not throw; "5 times .." calls it
 * so often. A line of the form text "1.5e3" empties the text and types these signs.
 */
final class Runs {
    private static final Pattern TEXT = Pattern.compile("text \"(.*)\"");
    private static final Pattern CALL = Pattern.compile("(?:(\\d+) times )?(\\w+)\\((.*)\\)(?: = (\\S+))?");

    private final String test;
    private final TreeSet<Integer> promises = new TreeSet<>();
    private int wrong = 0;

    Runs(String test) {
        this.test = test;
    }

    /** A run on a new house, for a promise. */
    void promise(int number, String calls) {
        promises.add(number);
        Tillhouse house = new Tillhouse();
        for (String line : calls.split("\n")) {
            if (!line.isBlank()) {
                step(house, "promise " + number, line.trim());
            }
        }
    }

    /** Ends the test; each of these promises must have had a run. */
    void end(int first, int last) {
        for (int number = first; number <= last; number++) {
            if (!promises.contains(number)) {
                wrong("promise " + number + " has no run");
            }
        }
        if (wrong > 0) {
            System.out.println(test + ": " + wrong + " answers are not as due");
            System.exit(1);
        }
    }

    private void wrong(String what) {
        wrong++;
        System.out.println(test + ": " + what);
    }

    private void step(Tillhouse house, String where, String line) {
        Matcher text = TEXT.matcher(line);
        if (text.matches()) {
            house.wipe();
            for (char sign : text.group(1).toCharArray()) {
                house.type(sign);
            }
            return;
        }
        Matcher call = CALL.matcher(line);
        if (!call.matches()) {
            wrong(where + ": no call can be read in: " + line);
            return;
        }
        int times = call.group(1) == null ? 1 : Integer.parseInt(call.group(1));
        String[] words = call.group(3).isEmpty() ? new String[0] : call.group(3).split(", ");
        for (int i = 0; i < times; i++) {
            String got = Calls.answer(house, call.group(2), words);
            String due = call.group(4);
            if (due == null ? got.startsWith("throws.") || got.startsWith("no") : !got.equals(due)) {
                wrong(where + ": " + line + ", but it answered " + got);
            }
        }
    }
}
