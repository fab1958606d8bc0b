import java.util.ArrayList;
import java.util.List;
import java.util.TreeSet;
import java.util.regex.Matcher;
import java.util.regex.Pattern;

/**
 * Runs of calls on new houses, told as texts, a call a line; README.md tells the forms. Every answer that is told must
 * be that of the house, and of the model too; and every call that is refused must change nothing.
 */
final class Runs {
    private static final Pattern TEXT = Pattern.compile("text \"(.*)\"");
    private static final Pattern CALL = Pattern.compile("(?:(\\d+) times |(each) )?(\\w+)\\((.*?)\\)(?: = (\\S+)| else (.+))?");
    private static final Pattern MARKED = Pattern.compile("\\{(.+)\\}");
    private static final Pattern RANGE = Pattern.compile("(-?\\d+)\\.\\.(-?\\d+)");
    private static final Pattern DUE_OF = Pattern.compile("(\\S+) of (\\S+), (\\S+)");

    private final String test;
    private final TreeSet<Integer> promises = new TreeSet<>();
    private int wrong = 0;

    Runs(String test) {
        this.test = test;
    }

    /** A run on a new house, for a promise. */
    void promise(int number, String calls) {
        promises.add(number);
        run("promise " + number, calls);
    }

    /** A run on a new house. */
    void run(String where, String calls) {
        Run run = new Run(where);
        for (String line : calls.split("\n")) {
            if (!line.isBlank()) {
                run.step(line.trim());
            }
        }
        if (run.count > Call.MOST) {
            wrong(where + ": " + run.count + " calls on one house, and nothing is promised of the last ones");
        }
    }

    /** Ends the test; each of these promises must have had a run. */
    void end(int first, int last) {
        for (int number = first; number <= last; number++) {
            if (!promises.contains(number)) {
                wrong("promise " + number + " has no run");
            }
        }
        end();
    }

    void end() {
        if (wrong > 0) {
            System.out.println(test + ": " + wrong + " answers are not as due");
            System.exit(1);
        }
    }

    void wrong(String what) {
        wrong++;
        System.out.println(test + ": " + what);
    }

    private final class Run {
        private final String where;
        private final Tillhouse house = new Tillhouse();
        private final Model model = new Model();
        private final List<Call> made = new ArrayList<>();
        private final Refusals refusals = new Refusals();
        private int count = 0;

        Run(String where) {
            this.where = where;
        }

        void step(String line) {
            Matcher text = TEXT.matcher(line);
            if (text.matches()) {
                for (Call call : Call.typing(text.group(1))) {
                    make(line, call, null);
                }
                return;
            }
            Matcher call = CALL.matcher(line);
            if (!call.matches()) {
                wrong(where + ": no call can be read in: " + line);
                return;
            }
            String name = call.group(3);
            String words = call.group(4);
            if (call.group(6) != null) {
                ends(line, name, words, call.group(6));
                return;
            }
            if (call.group(2) != null) {
                for (String word : wordsIn(words)) {
                    make(line, called(name, words, word), call.group(5));
                }
                return;
            }
            if (MARKED.matcher(words).find()) {
                wrong(where + ": a range, but neither 'each' nor 'else' in: " + line);
                return;
            }
            int times = call.group(1) == null ? 1 : Integer.parseInt(call.group(1));
            for (int i = 0; i < times; i++) {
                make(line, called(name, words, ""), call.group(5));
            }
        }

        private Call called(String name, String words, String word) {
            String told = MARKED.matcher(words).replaceFirst(Matcher.quoteReplacement(word));
            return new Call(name, told.isEmpty() ? new String[0] : told.split(", "));
        }

        /** Makes a call; without an answer that is due it must not be refused. */
        private void make(String line, Call call, String due) {
            count++;
            String got = call.on(house);
            if (due == null ? Call.isRefusal(got) || got.startsWith("no") : !got.equals(due)) {
                wrong(where + ": " + line + ", but " + call + " answered " + got);
            }
            String told = call.on(model);
            if (!told.equals(got)) {
                wrong(where + ": " + line + ", but " + call + " answered " + got + ", and " + told + " in the model");
            }
            if (Call.isRefusal(got)) {
                String change = refusals.change(made, call);
                if (change != null) {
                    wrong(where + ": " + line + ", but behind " + call + ", which was refused, " + change);
                }
            } else {
                made.add(call);
            }
        }

        /** The ends of a range, which are taken, and what is beyond them, which is refused; or the same with letters. */
        private void ends(String line, String name, String words, String refusal) {
            Matcher marked = MARKED.matcher(words);
            if (!marked.find()) {
                wrong(where + ": no range can be read in: " + line);
                return;
            }
            Matcher dueOf = DUE_OF.matcher(refusal);
            boolean isSplit = dueOf.matches();
            for (String word : Ends.within(marked.group(1))) {
                make(line, called(name, words, word), null);
            }
            int place = words.substring(0, marked.start()).split(", ", -1).length - 1;
            for (String word : Ends.beyond(marked.group(1), Calls.argumentType(name, place))) {
                boolean isOther = isSplit && word.equals(dueOf.group(2));
                make(line, called(name, words, word), isSplit ? dueOf.group(isOther ? 1 : 3) : refusal);
            }
        }
    }

    /** All words of the marked range, or letters. */
    private static List<String> wordsIn(String words) {
        List<String> all = new ArrayList<>();
        Matcher marked = MARKED.matcher(words);
        if (marked.find()) {
            Matcher range = RANGE.matcher(marked.group(1));
            if (range.matches()) {
                for (long i = Long.parseLong(range.group(1)); i <= Long.parseLong(range.group(2)); i++) {
                    all.add("" + i);
                }
            } else {
                all.addAll(Ends.within(marked.group(1)));
            }
        }
        return all;
    }

    /** The words at the ends of a range of numbers "-18..36", or of letters "udcf", and those beyond. */
    private static final class Ends {
        static List<String> within(String range) {
            Matcher numbers = RANGE.matcher(range);
            if (numbers.matches()) {
                boolean isOne = numbers.group(1).equals(numbers.group(2));
                return isOne ? List.of(numbers.group(1)) : List.of(numbers.group(1), numbers.group(2));
            }
            List<String> letters = new ArrayList<>();
            for (char letter : range.toCharArray()) {
                letters.add("'" + letter + "'");
            }
            return letters;
        }

        static List<String> beyond(String range, Class<?> type) {
            Matcher numbers = RANGE.matcher(range);
            if (numbers.matches()) {
                return beyond(Long.parseLong(numbers.group(1)), Long.parseLong(numbers.group(2)), type);
            }
            List<String> others = new ArrayList<>();
            for (char letter : range.toCharArray()) {
                // neighbours, the other case, and what a narrower type would take for it
                for (int sign : new int[] {letter - 1, letter + 1, letter ^ 32, letter + 256, letter + 0xFF00}) {
                    addUnlike(others, range, sign);
                }
            }
            for (int sign : new int[] {0, 32, 127, 255, 0xFFFF}) {
                addUnlike(others, range, sign);
            }
            return others;
        }

        private static void addUnlike(List<String> others, String range, int sign) {
            if (range.indexOf(sign) < 0 && !others.contains("" + sign)) {
                others.add("" + sign);
            }
        }

        private static List<String> beyond(long least, long most, Class<?> type) {
            boolean isLong = type == long.class;
            long[] numbers = {least - 1, most + 1, isLong ? Long.MIN_VALUE : Integer.MIN_VALUE,
                isLong ? Long.MAX_VALUE : Integer.MAX_VALUE, least + (1L << 8), least + (1L << 16),
                // only a long can hold these; a narrower type would take them for the ends
                least + (1L << 32), most - (1L << 32), least + (1L << 63), most + (1L << 63)};
            List<String> others = new ArrayList<>();
            for (long number : numbers) {
                boolean isHeld = isLong || number == (int) number;
                if (isHeld && (number < least || number > most) && !others.contains("" + number)) {
                    others.add("" + number);
                }
            }
            return others;
        }
    }
}
