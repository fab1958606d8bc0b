import java.math.BigDecimal;
import java.math.BigInteger;
import java.math.MathContext;
import java.math.RoundingMode;
import java.util.ArrayDeque;
import java.util.ArrayList;
import java.util.Comparator;
import java.util.List;
import java.util.Map;
import java.util.NoSuchElementException;
import java.util.TreeMap;
import java.util.regex.Pattern;

/** What the document tells, told once more with the library's own decimal numbers and maps. */
final class Model {
    private static final Pattern NUMBER = Pattern.compile("[+-]?(?:[0-9]+\\.?[0-9]*|\\.[0-9]+)(?:[eE][+-]?[0-9]{1,3})?");
    private static final Map<Character, RoundingMode> MODES = Map.of(
        'u', RoundingMode.UP, 'd', RoundingMode.DOWN, 'c', RoundingMode.CEILING, 'f', RoundingMode.FLOOR,
        'h', RoundingMode.HALF_UP, 'l', RoundingMode.HALF_DOWN, 'e', RoundingMode.HALF_EVEN,
        'n', RoundingMode.UNNECESSARY);
    private static final BigDecimal TEN_TO_12 = BigDecimal.TEN.pow(12);

    private record Line(BigDecimal exactNet, BigDecimal tax) {
    }

    private record Entry(int day, int left, int right, BigDecimal units) {
    }

    private record Month(BigDecimal interest, BigDecimal paid, BigDecimal owed) {
    }

    private static final class Invoice {
        int day;
        int currency;
        boolean isByLine;
        boolean isBooked;
        final List<Line> lines = new ArrayList<>();
    }

    private static final class Act {
        int day;
        Invoice invoice;
        final List<Entry> entries = new ArrayList<>();
    }

    private final BigDecimal[] shelves = new BigDecimal[12];
    private String text = "";
    private final int[] digits = {2, 2, 2, 2};
    private final char[] modes = {'h', 'h', 'h', 'h'};
    private final int[] cash = {1, 1, 1, 1};
    private final BigDecimal[][] rates = new BigDecimal[4][4];
    private final List<TreeMap<Integer, Integer>> taxes = new ArrayList<>();
    private final List<TreeMap<Integer, Integer>> discounts = new ArrayList<>();
    private final List<Invoice> invoices = new ArrayList<>();
    private List<Integer> weights = new ArrayList<>();
    private List<Long> parts = new ArrayList<>();
    private List<Month> months = new ArrayList<>();
    private final ArrayDeque<Act> acts = new ArrayDeque<>();
    private int shutDay = -1;

    Model() {
        for (int i = 0; i < 6; i++) {
            taxes.add(new TreeMap<>());
            discounts.add(new TreeMap<>());
        }
    }

    private static void index(boolean isThere) {
        if (!isThere) {
            throw new IndexOutOfBoundsException();
        }
    }

    private static void argument(boolean isGood) {
        if (!isGood) {
            throw new IllegalArgumentException();
        }
    }

    private static void element(boolean isThere) {
        if (!isThere) {
            throw new NoSuchElementException();
        }
    }

    private static void state(boolean isGood) {
        if (!isGood) {
            throw new IllegalStateException();
        }
    }

    private static void supported(boolean isGood) {
        if (!isGood) {
            throw new UnsupportedOperationException();
        }
    }

    private static boolean isIn(long number, long least, long most) {
        return least <= number && number <= most;
    }

    private static int shelf(int shelf) {
        index(isIn(shelf, 0, 11));
        return shelf;
    }

    private BigDecimal on(int shelf) {
        element(shelves[shelf] != null);
        return shelves[shelf];
    }

    private static BigDecimal fit(BigDecimal value) {
        if (value.precision() > 18 || !isIn(value.scale(), -18, 36)) {
            throw new ArithmeticException();
        }
        return value;
    }

    private BigDecimal store(int shelf, BigDecimal value) {
        shelves[shelf] = fit(value);
        return value;
    }

    public int put(int shelf, long unscaled, int scale) {
        shelf(shelf);
        argument(isIn(scale, -18, 36) && BigDecimal.valueOf(unscaled).precision() <= 18);
        return store(shelf, BigDecimal.valueOf(unscaled, scale)).precision();
    }

    public int type(char sign) {
        state(text.length() < 24);
        text += sign;
        return text.length();
    }

    public int fault() {
        for (int i = 1; i <= text.length(); i++) {
            String start = text.substring(0, i);
            if (!isNumber(start) && !isNumber(start + "0")) {
                return i - 1;
            }
        }
        return isNumber(text) ? -1 : text.length();
    }

    private static boolean isNumber(String text) {
        return NUMBER.matcher(text).matches();
    }

    public int read(int shelf) {
        shelf(shelf);
        argument(isNumber(text));
        int scale = store(shelf, new BigDecimal(text)).scale();
        text = "";
        return scale;
    }

    public int wipe() {
        int before = text.length();
        text = "";
        return before;
    }

    public long unscaled(int shelf) {
        return on(shelf(shelf)).unscaledValue().longValueExact();
    }

    public int scale(int shelf) {
        return on(shelf(shelf)).scale();
    }

    public int precision(int shelf) {
        BigDecimal value = on(shelf(shelf));
        return value.precision() * value.signum();
    }

    public int join(int one, int other, char act, int to) {
        shelf(one);
        shelf(other);
        shelf(to);
        argument("+-*gl".indexOf(act) >= 0);
        BigDecimal a = on(one);
        BigDecimal b = on(other);
        return store(to, switch (act) {
            case '+' -> a.add(b);
            case '-' -> a.subtract(b);
            case '*' -> a.multiply(b);
            case 'g' -> a.max(b);
            default -> a.min(b);
        }).scale();
    }

    public int turn(int shelf, char act, int to) {
        shelf(shelf);
        shelf(to);
        argument("-as".indexOf(act) >= 0);
        BigDecimal a = on(shelf);
        return store(to, act == '-' ? a.negate() : act == 'a' ? a.abs() : a.stripTrailingZeros()).scale();
    }

    public int move(int shelf, int places, int to) {
        shelf(shelf);
        shelf(to);
        argument(isIn(places, -20, 20) && places != 0);
        return store(to, on(shelf).movePointLeft(places)).scale();
    }

    public int setScale(int shelf, int scale, char mode, int to) {
        shelf(shelf);
        shelf(to);
        argument(isIn(scale, -18, 36) && MODES.containsKey(mode));
        return store(to, on(shelf).setScale(scale, MODES.get(mode))).precision();
    }

    public int round(int shelf, int digits, char mode, int to) {
        shelf(shelf);
        shelf(to);
        argument(isIn(digits, 1, 18) && MODES.containsKey(mode));
        return store(to, on(shelf).round(new MathContext(digits, MODES.get(mode)))).scale();
    }

    public int divide(int one, int other, int scale, char mode, int to) {
        shelf(one);
        shelf(other);
        shelf(to);
        argument(isIn(scale, -18, 36) && MODES.containsKey(mode));
        BigDecimal a = on(one);
        return store(to, a.divide(on(other), scale, MODES.get(mode))).precision();
    }

    public int divideExactly(int one, int other, int to) {
        shelf(one);
        shelf(other);
        shelf(to);
        BigDecimal a = on(one);
        return store(to, a.divide(on(other))).scale();
    }

    public int compare(int one, int other) {
        shelf(one);
        shelf(other);
        BigDecimal a = on(one);
        return a.compareTo(on(other));
    }

    public boolean isEqual(int one, int other) {
        shelf(one);
        shelf(other);
        BigDecimal a = on(one);
        return a.equals(on(other));
    }

    private static void currency(int currency) {
        index(isIn(currency, 0, 3));
    }

    public int setCurrency(int currency, int digits, char mode, int cash) {
        currency(currency);
        argument(isIn(digits, 0, 3) && MODES.containsKey(mode) && isIn(cash, 1, 100));
        int before = this.digits[currency];
        this.digits[currency] = digits;
        this.modes[currency] = mode;
        this.cash[currency] = cash;
        return before;
    }

    public boolean setRate(int currency, int other, int shelf) {
        currency(currency);
        currency(other);
        shelf(shelf);
        argument(currency != other);
        if (on(shelf).signum() <= 0) {
            throw new ArithmeticException();
        }
        boolean wasThere = rates[currency][other] != null;
        rates[currency][other] = on(shelf);
        return wasThere;
    }

    public long change(int currency, int other, long units) {
        currency(currency);
        currency(other);
        argument(currency != other && isIn(units, 0, 1_000_000_000_000L));
        return changed(currency, other, BigDecimal.valueOf(units)).longValueExact();
    }

    public long lost(int currency, int other, long units) {
        currency(currency);
        currency(other);
        argument(currency != other && isIn(units, 0, 1_000_000_000_000L));
        element(rates[currency][other] != null && rates[other][currency] != null);
        return units - changed(other, currency, changed(currency, other, BigDecimal.valueOf(units))).longValueExact();
    }

    private BigDecimal changed(int currency, int other, BigDecimal units) {
        element(rates[currency][other] != null);
        BigDecimal wholes = units.scaleByPowerOfTen(-digits[currency]).multiply(rates[currency][other]);
        return fit(rounded(wholes.scaleByPowerOfTen(digits[other]), other));
    }

    private BigDecimal rounded(BigDecimal units, int currency) {
        return units.setScale(0, MODES.get(modes[currency]));
    }

    private static void kind(int kind) {
        index(isIn(kind, 0, 5));
    }

    private static int told(TreeMap<Integer, Integer> steps, int from) {
        Map.Entry<Integer, Integer> step = steps.floorEntry(from);
        return step == null ? 0 : step.getValue();
    }

    public int setTax(int kind, int day, int points) {
        kind(kind);
        argument(isIn(day, 0, 9999) && isIn(points, 0, 9999));
        taxes.get(kind).put(day, points);
        return taxes.get(kind).size();
    }

    public int tax(int kind, int day) {
        kind(kind);
        argument(isIn(day, 0, 9999));
        return told(taxes.get(kind), day);
    }

    public int setDiscount(int kind, int quantity, int permille) {
        kind(kind);
        argument(isIn(quantity, 1, 999_999) && isIn(permille, 0, 999));
        discounts.get(kind).put(quantity, permille);
        return discounts.get(kind).size();
    }

    private Invoice invoice(int number) {
        index(isIn(number, 0, invoices.size() - 1));
        return invoices.get(number);
    }

    public int open(int day, int currency, boolean isByLine) {
        currency(currency);
        argument(isIn(day, 0, 9999));
        state(invoices.size() < 20);
        Invoice invoice = new Invoice();
        invoice.day = day;
        invoice.currency = currency;
        invoice.isByLine = isByLine;
        invoices.add(invoice);
        return invoices.size() - 1;
    }

    public int line(int number, int kind, int quantity, int price) {
        Invoice invoice = invoice(number);
        kind(kind);
        argument(isIn(quantity, 1, 999_999) && isIn(price, 0, 9_999_999));
        supported(!invoice.isBooked);
        state(invoice.lines.size() < 12);
        BigDecimal full = BigDecimal.valueOf(quantity, 3).multiply(BigDecimal.valueOf(price));
        BigDecimal discount = BigDecimal.valueOf(told(discounts.get(kind), quantity), 3);
        invoice.lines.add(new Line(full.subtract(full.multiply(discount)),
            BigDecimal.valueOf(told(taxes.get(kind), invoice.day), 4)));
        return invoice.lines.size() - 1;
    }

    public long netOfLine(int number, int line) {
        Invoice invoice = invoice(number);
        index(isIn(line, 0, invoice.lines.size() - 1));
        return rounded(invoice.lines.get(line).exactNet, invoice.currency).longValueExact();
    }

    public long net(int number) {
        return netOf(invoice(number)).longValueExact();
    }

    private BigDecimal netOf(Invoice invoice) {
        BigDecimal sum = BigDecimal.ZERO;
        for (Line line : invoice.lines) {
            sum = sum.add(invoice.isByLine ? rounded(line.exactNet, invoice.currency) : line.exactNet);
        }
        return rounded(sum, invoice.currency);
    }

    public long taxOf(int number) {
        return taxSumOf(invoice(number)).longValueExact();
    }

    private BigDecimal taxSumOf(Invoice invoice) {
        BigDecimal sum = BigDecimal.ZERO;
        TreeMap<BigDecimal, BigDecimal> nets = new TreeMap<>();
        for (Line line : invoice.lines) {
            if (invoice.isByLine) {
                BigDecimal net = rounded(line.exactNet, invoice.currency);
                sum = sum.add(rounded(net.multiply(line.tax), invoice.currency));
            } else if (line.tax.signum() > 0) {
                nets.merge(line.tax, line.exactNet, BigDecimal::add);
            }
        }
        for (Map.Entry<BigDecimal, BigDecimal> net : nets.entrySet()) {
            sum = sum.add(rounded(net.getKey().multiply(net.getValue()), invoice.currency));
        }
        return sum;
    }

    public long cash(int number) {
        Invoice invoice = invoice(number);
        BigDecimal gross = netOf(invoice).add(taxSumOf(invoice));
        BigDecimal coin = BigDecimal.valueOf(cash[invoice.currency]);
        return gross.divide(coin, 0, RoundingMode.HALF_UP).multiply(coin).longValueExact();
    }

    public int weigh(int weight) {
        argument(isIn(weight, 0, 9999));
        state(weights.size() < 12);
        weights.add(weight);
        return weights.size();
    }

    public int share(long units, char rule) {
        argument(isIn(units, 0, 1_000_000_000_000L) && "lfb".indexOf(rule) >= 0);
        BigInteger all = BigInteger.valueOf(weights.stream().mapToLong(w -> w).sum());
        supported(all.signum() > 0);
        List<Long> cutParts = new ArrayList<>();
        List<Integer> order = new ArrayList<>();
        BigInteger[] cuts = new BigInteger[weights.size()];
        long left = units;
        for (int i = 0; i < weights.size(); i++) {
            BigInteger[] cut = BigInteger.valueOf(units).multiply(BigInteger.valueOf(weights.get(i))).divideAndRemainder(all);
            cutParts.add(cut[0].longValueExact());
            cuts[i] = cut[1];
            left -= cut[0].longValueExact();
            if (cut[1].signum() > 0) {
                order.add(rule == 'b' ? 0 : order.size(), i);
            }
        }
        if (rule == 'l') {
            order.sort(Comparator.comparing((Integer i) -> cuts[i]).reversed());
        }
        for (int i = 0; i < left; i++) {
            cutParts.set(order.get(i), cutParts.get(order.get(i)) + 1);
        }
        parts = cutParts;
        weights = new ArrayList<>();
        return (int) left;
    }

    public long part(int number) {
        element(isIn(number, 0, parts.size() - 1));
        return parts.get(number);
    }

    public long interest(long units, int points, int days, int year, char mode) {
        argument(isIn(units, 0, 1_000_000_000_000L) && isIn(points, 0, 9999) && isIn(days, 0, 9999));
        argument((year == 360 || year == 365 || year == 366) && MODES.containsKey(mode));
        BigDecimal product = BigDecimal.valueOf(units).multiply(BigDecimal.valueOf(points, 4)).multiply(BigDecimal.valueOf(days));
        return product.divide(BigDecimal.valueOf(year), 0, MODES.get(mode)).longValueExact();
    }

    private static BigDecimal monthly(BigDecimal owed, int points) {
        return owed.multiply(BigDecimal.valueOf(points, 4)).divide(BigDecimal.valueOf(12), 0, RoundingMode.HALF_EVEN);
    }

    public int lend(long units, int points, long instalment) {
        argument(isIn(units, 1, 1_000_000_000_000L) && isIn(points, 0, 9999) && isIn(instalment, 1, 1_000_000_000_000L));
        BigDecimal owed = BigDecimal.valueOf(units);
        BigDecimal pays = BigDecimal.valueOf(instalment);
        supported(monthly(owed, points).compareTo(pays) < 0);
        List<Month> table = new ArrayList<>();
        while (owed.signum() > 0) {
            state(table.size() < 120);
            BigDecimal interest = monthly(owed, points);
            BigDecimal paid = pays.subtract(interest).min(owed);
            owed = owed.subtract(paid);
            table.add(new Month(interest, paid, owed));
        }
        months = table;
        return months.size();
    }

    public long instalment(int number, char what) {
        argument("ipos".indexOf(what) >= 0);
        element(isIn(number, 0, months.size() - 1));
        Month month = months.get(number);
        return (switch (what) {
            case 'i' -> month.interest;
            case 'p' -> month.paid;
            case 'o' -> month.owed;
            default -> month.interest.add(month.paid);
        }).longValueExact();
    }

    private static void account(int account) {
        index(isIn(account, 0, 99));
    }

    private List<Entry> entries() {
        List<Entry> entries = new ArrayList<>();
        for (Act act : acts) {
            entries.addAll(act.entries);
        }
        return entries;
    }

    public int post(int day, int account, int other, long units) {
        account(account);
        account(other);
        argument(isIn(day, 0, 9999) && isIn(units, 1, 1_000_000_000_000L) && account != other);
        supported(day > shutDay);
        state(entries().size() < 200);
        Act act = new Act();
        act.day = day;
        act.entries.add(new Entry(day, account, other, BigDecimal.valueOf(units)));
        acts.addLast(act);
        return entries().size();
    }

    public int book(int number) {
        Invoice invoice = invoice(number);
        supported(!invoice.isBooked && invoice.day > shutDay);
        element(invoice.currency == 0 || rates[invoice.currency][0] != null);
        BigDecimal net = netOf(invoice);
        BigDecimal gross = net.add(taxSumOf(invoice));
        if (invoice.currency != 0) {
            net = changed(invoice.currency, 0, net);
            gross = changed(invoice.currency, 0, gross);
        }
        if (net.max(gross).compareTo(TEN_TO_12) > 0) {
            throw new ArithmeticException();
        }
        Act act = new Act();
        act.day = invoice.day;
        act.invoice = invoice;
        if (net.signum() > 0) {
            act.entries.add(new Entry(act.day, 1, 2, net));
        }
        if (gross.compareTo(net) > 0) {
            act.entries.add(new Entry(act.day, 1, 3, gross.subtract(net)));
        }
        state(entries().size() + act.entries.size() <= 200);
        acts.addLast(act);
        invoice.isBooked = true;
        return entries().size();
    }

    public boolean isBooked(int number) {
        return invoice(number).isBooked;
    }

    private TreeMap<Integer, BigDecimal> sides(boolean isLeft) {
        TreeMap<Integer, BigDecimal> sides = new TreeMap<>();
        for (Entry entry : entries()) {
            sides.merge(isLeft ? entry.left : entry.right, entry.units, BigDecimal::add);
        }
        return sides;
    }

    public long side(int account, int last, boolean isLeft) {
        account(account);
        account(last);
        argument(account <= last);
        BigDecimal sum = BigDecimal.ZERO;
        for (BigDecimal money : sides(isLeft).subMap(account, true, last, true).values()) {
            sum = sum.add(money);
        }
        return sum.longValueExact();
    }

    public int nextAccount(int account) {
        TreeMap<Integer, BigDecimal> all = sides(true);
        all.putAll(sides(false));
        Integer next = all.higherKey(account);
        element(next != null);
        return next;
    }

    public int shut(int day) {
        argument(isIn(day, 0, 9999));
        supported(day > shutDay);
        shutDay = day;
        return (int) entries().stream().filter(entry -> entry.day <= shutDay).count();
    }

    public int undo() {
        element(!acts.isEmpty());
        supported(acts.getLast().day > shutDay);
        Act act = acts.removeLast();
        if (act.invoice != null) {
            act.invoice.isBooked = false;
        }
        return entries().size();
    }

    public boolean isSound() {
        return true;
    }
}
