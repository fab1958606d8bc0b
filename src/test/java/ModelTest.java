import java.util.ArrayDeque;
import java.util.ArrayList;
import java.util.List;

/** Long runs of drawn calls, on a house and on the model; they always draw the same. */
public final class ModelTest {
    private static final int RUNS = 2_200;
    private static final String MODES = "udcfhlen";

    private static final String[] VALUES = {"put", "put", "put", "join", "join", "join", "turn", "move", "setScale",
        "setScale", "round", "round", "divide", "divide", "divideExactly", "divideExactly", "compare", "compare",
        "isEqual", "unscaled", "scale", "precision", "text"};
    private static final String[] MONEY = {"setCurrency", "setRate", "setRate", "change", "change", "lost", "lost",
        "put", "put", "setTax", "tax", "setDiscount", "open", "line", "line", "line", "netOfLine", "net", "taxOf", "cash"};
    private static final String[] TABLES = {"weigh", "weigh", "weigh", "weigh", "share", "part", "interest", "lend",
        "instalment", "isSound"};
    private static final String[] LEDGER = {"post", "post", "post", "book", "book", "isBooked", "side", "side",
        "nextAccount", "shut", "undo", "isSound", "open", "line", "line", "setTax", "setRate", "put", "setCurrency"};

    private long seed;
    private final ArrayDeque<Character> typed = new ArrayDeque<>();

    private ModelTest(long seed) {
        this.seed = seed;
    }

    public static void main(String[] args) {
        for (int run = 0; run < RUNS; run++) {
            String wrong = new ModelTest(run).differs(run);
            if (wrong != null) {
                System.out.println("ModelTest: run " + run + ": " + wrong);
                System.exit(1);
            }
        }
    }

    /** Null if all answers are alike. */
    private String differs(int run) {
        Tillhouse house = new Tillhouse();
        Model model = new Model();
        List<String> told = new ArrayList<>();
        List<String[]> last = allThatCanBeAsked();
        for (int i = 0; i < Call.MOST - last.size(); i++) {
            String[] call = drawnCall(run);
            told.add(String.join(" ", call));
            String wrong = differs(house, model, call);
            if (wrong != null) {
                return wrong + "\nbehind " + told;
            }
        }
        for (String[] call : last) {
            String wrong = differs(house, model, call);
            if (wrong != null) {
                return wrong + "\nat the end of " + told;
            }
        }
        return null;
    }

    private static String differs(Tillhouse house, Model model, String[] call) {
        String[] words = java.util.Arrays.copyOfRange(call, 1, call.length);
        String got = Calls.answer(house, call[0], words);
        String due = Calls.answer(model, call[0], words);
        return got.equals(due) && !got.startsWith("no") ? null : String.join(" ", call) + " answered " + got + ", due is " + due;
    }

    private static List<String[]> allThatCanBeAsked() {
        List<String[]> calls = new ArrayList<>();
        for (int i = 0; i < 12; i++) {
            calls.add(new String[] {"unscaled", "" + i});
            calls.add(new String[] {"scale", "" + i});
            calls.add(new String[] {"part", "" + i});
        }
        for (int i = 0; i < 20; i++) {
            for (String name : new String[] {"net", "taxOf", "cash", "isBooked"}) {
                calls.add(new String[] {name, "" + i});
            }
        }
        for (int i = -1; i < 100; i++) {
            calls.add(new String[] {"nextAccount", "" + i});
        }
        calls.add(new String[] {"fault"});
        calls.add(new String[] {"isSound"});
        return calls;
    }

    // ---- drawing ----

    private int draw(int bound) {
        seed = seed * 6364136223846793005L + 1442695040888963407L;
        return (int) ((seed >>> 33) % bound);
    }

    private boolean oneIn(int times) {
        return draw(times) == 0;
    }

    /** A number of the range, or now and then an end of it or one beyond. */
    private String number(long least, long most) {
        switch (draw(24)) {
            case 0:
                return "" + least;
            case 1:
                return "" + most;
            case 2:
                return "" + (oneIn(4) ? least - 1 : least);
            case 3:
                return "" + (oneIn(4) ? most + 1 : most);
            default:
                return "" + (least + (((long) draw(1 << 30) << 30) + draw(1 << 30)) % (most - least + 1));
        }
    }

    /** An index below the bound; few of them, so that they meet. */
    private String index(int bound) {
        if (oneIn(60)) {
            return oneIn(2) ? "-1" : "" + bound;
        }
        return "" + draw(bound);
    }

    private String letter(String letters) {
        return "'" + (oneIn(40) ? 'x' : letters.charAt(draw(letters.length()))) + "'";
    }

    private String unscaledNumber() {
        int length = 1 + draw(18);
        StringBuilder digits = new StringBuilder(oneIn(3) ? "-" : "");
        int kind = draw(5);
        for (int i = 0; i < length; i++) {
            switch (kind) {
                case 0:
                    digits.append('9');
                    break;
                case 1:
                    digits.append(i == 0 ? "125".charAt(draw(3)) : '0');
                    break;
                case 2:
                    digits.append(i == length / 2 ? '5' : i == length - 1 ? "0015".charAt(draw(4)) : (char) ('0' + draw(10)));
                    break;
                case 3:
                    digits.append(i < 2 ? (char) ('0' + draw(10)) : '0');
                    break;
                default:
                    digits.append((char) ('0' + draw(10)));
            }
        }
        if (oneIn(10)) {
            return "" + (1L << draw(60));
        }
        return oneIn(60) ? "1000000000000000000" : digits.toString();
    }

    private String money() {
        switch (draw(4)) {
            case 0:
                return number(0, 1_000_000_000_000L);
            case 1:
                return number(0, 1_000_000);
            default:
                return number(0, 300);
        }
    }

    private String smallMoney() {
        return oneIn(4) ? number(1, 1_000_000_000_000L) : number(1, 9_999);
    }

    private String scaleOf(boolean isWide) {
        return isWide ? number(-18, 36) : "" + (draw(8) - 2);
    }

    private void drawText() {
        if (oneIn(2)) {
            typed.add('~');
        }
        String start = oneIn(2) ? "" : oneIn(2) ? "-" : "+";
        String number = unscaledNumber().replace("-", "");
        if (oneIn(2)) {
            int place = draw(number.length() + 1);
            number = number.substring(0, place) + "." + number.substring(place);
        }
        String end = oneIn(3) ? "" : (oneIn(2) ? "e" : "E") + (oneIn(2) ? "" : oneIn(2) ? "-" : "+")
            + (oneIn(6) ? "0" : "") + (oneIn(6) ? "" : "" + draw(oneIn(6) ? 2_000 : 40));
        for (char sign : (start + number + end).toCharArray()) {
            typed.add(oneIn(80) ? "+-.eE0x/:".charAt(draw(9)) : sign);
        }
    }

    private String[] drawnCall(int run) {
        if (!typed.isEmpty()) {
            char sign = typed.poll();
            return sign == '~' ? new String[] {"wipe"} : typed.isEmpty() && oneIn(2) ? new String[] {"fault"}
                : new String[] {"type", "" + (int) sign};
        }
        String[][] groups = {VALUES, MONEY, TABLES, LEDGER};
        String[] names = groups[run % 5 == 4 ? draw(4) : run % 5];
        return drawnCall(names[draw(names.length)], run % 2 == 0);
    }

    private String[] drawnCall(String name, boolean isWide) {
        switch (name) {
            case "text":
                if (oneIn(2)) {
                    drawText();
                }
                return new String[] {"read", index(12)};
            case "put":
                return new String[] {name, index(12), unscaledNumber(), scaleOf(isWide)};
            case "join":
                return new String[] {name, index(12), index(12), letter("+-*gl"), index(12)};
            case "turn":
                return new String[] {name, index(12), letter("-as"), index(12)};
            case "move":
                return new String[] {name, index(12), number(-20, 20), index(12)};
            case "setScale":
                return new String[] {name, index(12), scaleOf(isWide), letter(MODES), index(12)};
            case "round":
                return new String[] {name, index(12), number(1, 18), letter(MODES), index(12)};
            case "divide":
                return new String[] {name, index(12), index(12), scaleOf(isWide), letter(MODES), index(12)};
            case "divideExactly":
                return new String[] {name, index(12), index(12), index(12)};
            case "compare":
            case "isEqual":
                return new String[] {name, index(12), index(12)};
            case "unscaled":
            case "scale":
            case "precision":
                return new String[] {name, index(12)};
            default:
                return drawnBusiness(name);
        }
    }

    private String[] drawnBusiness(String name) {
        switch (name) {
            case "setCurrency":
                return new String[] {name, index(4), number(0, 3), letter(MODES), number(1, 100)};
            case "setRate":
                return new String[] {name, index(4), index(4), index(12)};
            case "change":
            case "lost":
                return new String[] {name, index(4), index(4), money()};
            case "setTax":
                return new String[] {name, index(6), number(0, oneIn(3) ? 9_999 : 30), number(0, 9_999)};
            case "tax":
                return new String[] {name, index(6), number(0, oneIn(3) ? 9_999 : 30)};
            case "setDiscount":
                return new String[] {name, index(6), number(1, oneIn(3) ? 999_999 : 5_000), number(0, 999)};
            case "open":
                return new String[] {name, number(0, oneIn(3) ? 9_999 : 30), oneIn(2) ? "0" : index(4), "" + oneIn(2)};
            case "line":
                return new String[] {name, index(6), index(6), oneIn(3) ? "" + 500 * (1 + draw(4)) : number(1, 999_999),
                    oneIn(3) ? number(0, 9_999_999) : number(0, 20)};
            case "netOfLine":
                return new String[] {name, index(6), index(12)};
            case "net":
            case "taxOf":
            case "cash":
            case "book":
            case "isBooked":
                return new String[] {name, index(6)};
            default:
                return drawnTable(name);
        }
    }

    private String[] drawnTable(String name) {
        switch (name) {
            case "weigh":
                return new String[] {name, oneIn(3) ? number(0, 9_999) : number(0, 9)};
            case "share":
                return new String[] {name, money(), letter("lfb")};
            case "part":
                return new String[] {name, index(12)};
            case "interest":
                return new String[] {name, money(), number(0, 9_999), number(0, 9_999),
                    new String[] {"360", "365", "366", "361"}[oneIn(20) ? 3 : draw(3)], letter(MODES)};
            case "lend":
                return new String[] {name, smallMoney(), oneIn(2) ? number(0, 9_999) : number(0, 1_200), smallMoney()};
            case "instalment":
                return new String[] {name, index(oneIn(3) ? 120 : 6), letter("ipos")};
            case "post":
                return new String[] {name, number(0, 60), index(oneIn(3) ? 100 : 6), index(oneIn(3) ? 100 : 6), smallMoney()};
            case "side":
                return new String[] {name, index(oneIn(3) ? 100 : 6), index(oneIn(3) ? 100 : 6), "" + oneIn(2)};
            case "nextAccount":
                return new String[] {name, number(-1, 100)};
            case "shut":
                // few and early, so that days are left
                return new String[] {name, number(0, oneIn(4) ? 60 : 9)};
            default:
                return new String[] {name};
        }
    }
}
