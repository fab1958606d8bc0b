import java.util.ArrayList;
import java.util.List;

/**
 * Looks whether a refused call changes nothing: all that can be asked of a house is asked of one on which the call was
 * made, and of one on which it was not.
 */
final class Refusals {
    private static final int[] DAYS = {0, 1, 2, 4, 5, 6, 7, 8, 9, 10, 11, 20, 21, 9_998, 9_999};
    private static final int[] QUANTITIES = {1, 2, 500, 999, 1_000, 1_500, 2_000, 999_999};
    private static final int[] ACCOUNTS = {0, 1, 2, 3, 5, 6, 7, 10, 11, 20, 21, 30, 50, 51, 97, 98, 99};

    private int asked = -1;
    private List<List<String>> answers = List.of();

    /** What differs behind a call that was refused, or null. */
    String change(List<Call> made, Call refused) {
        List<List<Call>> questions = questions(made);
        if (asked != made.size()) {
            asked = made.size();
            answers = new ArrayList<>();
            for (List<Call> each : questions) {
                answers.add(answersOf(made, null, each));
            }
        }
        for (int i = 0; i < questions.size(); i++) {
            List<String> got = answersOf(made, refused, questions.get(i));
            for (int j = 0; j < got.size(); j++) {
                String due = answers.get(i).get(j);
                if (!got.get(j).equals(due)) {
                    return questions.get(i).get(j) + " answers " + got.get(j) + ", due is " + due;
                }
            }
        }
        return null;
    }

    private static List<String> answersOf(List<Call> made, Call refused, List<Call> questions) {
        Tillhouse house = new Tillhouse();
        for (Call call : made) {
            call.on(house);
        }
        if (refused != null) {
            refused.on(house);
        }
        List<String> told = new ArrayList<>();
        // one call is kept for the refused one, so that both houses are asked as much
        int left = Call.MOST - 1 - made.size();
        for (int i = 0; i < questions.size() && i < left; i++) {
            told.add(questions.get(i).on(house));
        }
        return told;
    }

    /** Rows of questions, each for a new house, as the questions themselves change it. */
    private static List<List<Call>> questions(List<Call> made) {
        int invoices = (int) made.stream().filter(call -> call.name().equals("open")).count();
        return List.of(text(), reading(), shelves(), money(invoices), goods(invoices), invoices(invoices), tables(),
            accounts(), undoing(invoices), shutting());
    }

    private static List<Call> text() {
        return List.of(Call.of("fault"), Call.of("type", (int) '0'), Call.of("fault"), Call.of("wipe"));
    }

    private static List<Call> reading() {
        return List.of(Call.of("read", 0), Call.of("unscaled", 0), Call.of("scale", 0), Call.of("wipe"));
    }

    private static List<Call> shelves() {
        List<Call> calls = new ArrayList<>();
        for (int i = 0; i < 12; i++) {
            calls.add(Call.of("unscaled", i));
            calls.add(Call.of("scale", i));
        }
        return calls;
    }

    private static List<Call> money(int invoices) {
        List<Call> calls = new ArrayList<>();
        for (int i = 0; i < 4; i++) {
            for (int j = 0; j < 4; j++) {
                calls.add(Call.of("change", i, j, 1_000_000_007L));
                calls.add(Call.of("change", i, j, 1));
                calls.add(Call.of("lost", i, j, 13));
            }
        }
        for (int i = 0; i < 4; i++) {
            calls.add(Call.of("open", 0, i, true));
            // 0.5, 1.5, 2.4 tell all roundings apart that differ for money, 1000 the cash
            for (int tenths : new int[] {5, 15, 24, 10_000}) {
                calls.add(Call.of("line", invoices + i, 5, 100 * Math.min(tenths, 24), tenths > 24 ? 417 : 1));
            }
            for (int j = 0; j < 4; j++) {
                calls.add(Call.of("netOfLine", invoices + i, j));
            }
            calls.add(Call.of("cash", invoices + i));
            calls.add(Call.of("setCurrency", i, 2, "'h'", 1));
        }
        return calls;
    }

    private static List<Call> goods(int invoices) {
        List<Call> calls = new ArrayList<>();
        for (int i = 0; i < 6; i++) {
            for (int day : DAYS) {
                calls.add(Call.of("tax", i, day));
            }
            calls.add(Call.of("setTax", i, 77, 1));
        }
        for (int i = 0; i < 6; i++) {
            calls.add(Call.of("open", 0, 0, true));
            for (int j = 0; j < QUANTITIES.length; j++) {
                calls.add(Call.of("line", invoices + i, i, QUANTITIES[j], 1_000_000));
                calls.add(Call.of("netOfLine", invoices + i, j));
            }
            calls.add(Call.of("setDiscount", i, 77, 1));
        }
        return calls;
    }

    private static List<Call> invoices(int invoices) {
        List<Call> calls = new ArrayList<>();
        for (int i = 0; i <= invoices; i++) {
            for (String name : new String[] {"net", "taxOf", "cash", "isBooked"}) {
                calls.add(Call.of(name, i));
            }
        }
        calls.add(Call.of("open", 9_999, 0, true));
        for (int i = 0; i <= invoices; i++) {
            calls.add(Call.of("line", i, 0, 1_500, 7));
            calls.add(Call.of("net", i));
            calls.add(Call.of("netOfLine", i, 0));
            calls.add(Call.of("netOfLine", i, 11));
            calls.add(Call.of("book", i));
        }
        calls.add(Call.of("side", 0, 99, true));
        return calls;
    }

    private static List<Call> tables() {
        List<Call> calls = new ArrayList<>();
        calls.add(Call.of("isSound"));
        for (int i = 0; i <= 12; i++) {
            calls.add(Call.of("part", i));
        }
        for (int number : new int[] {0, 1, 2, 3, 118, 119}) {
            for (String letter : new String[] {"'i'", "'p'", "'o'", "'s'"}) {
                calls.add(Call.of("instalment", number, letter));
            }
        }
        calls.add(Call.of("weigh", 3));
        calls.add(Call.of("share", 1_000_003, "'l'"));
        for (int i = 0; i <= 12; i++) {
            calls.add(Call.of("part", i));
        }
        return calls;
    }

    private static List<Call> accounts() {
        List<Call> calls = new ArrayList<>();
        calls.add(Call.of("nextAccount", -1));
        calls.add(Call.of("side", 0, 99, true));
        calls.add(Call.of("side", 0, 99, false));
        for (int account : ACCOUNTS) {
            calls.add(Call.of("side", account, account, true));
            calls.add(Call.of("side", account, account, false));
            calls.add(Call.of("nextAccount", account));
        }
        return calls;
    }

    private static List<Call> undoing(int invoices) {
        List<Call> calls = new ArrayList<>();
        calls.add(Call.of("post", 9_999, 50, 51, 1));
        for (int i = 0; i < 222; i++) {
            calls.add(Call.of("undo"));
            if (i < 8) {
                calls.add(Call.of("side", 1, 1, true));
                calls.add(Call.of("isBooked", Math.max(invoices - 1, 0)));
            }
        }
        return calls;
    }

    private static List<Call> shutting() {
        List<Call> calls = new ArrayList<>();
        for (int day : DAYS) {
            calls.add(Call.of("post", day, 50, 51, 1));
        }
        for (int day : DAYS) {
            calls.add(Call.of("shut", day));
        }
        return calls;
    }
}
