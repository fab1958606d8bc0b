import java.util.Arrays;
import java.util.NoSuchElementException;

/** A house of tills that reckons money by decimal numbers; ../shared/DOC.md tells what it promises. */
public final class Tillhouse {
    private static final int SHELVES = 12;
    private static final int LEAST_SCALE = -18;
    private static final int MOST_SCALE = 36;
    private static final int MOST_DIGITS = 18;
    private static final long MOST_UNSCALED = 999_999_999_999_999_999L;
    private static final int MOST_PLACES = 20;

    private static final int CURRENCIES = 4;
    private static final int HOME = 0;
    private static final int MOST_CURRENCY_DIGITS = 3;
    private static final int MOST_CASH = 100;
    private static final long MOST_MONEY = 1_000_000_000_000L;

    private static final int KINDS = 6;
    private static final int LAST_DAY = 9_999;
    private static final int MOST_POINTS = 9_999;
    private static final int MOST_PERMILLE = 999;
    private static final int MOST_QUANTITY = 999_999;
    private static final int MOST_PRICE = 9_999_999;
    private static final int INVOICES = 20;

    private static final int MOST_WEIGHT = 9_999;
    private static final int MOST_DAYS = 9_999;

    private static final int ACCOUNTS = 100;
    private static final int DEBTORS = 1;
    private static final int SALES = 2;
    private static final int TAXES = 3;

    private final Value[] shelves = new Value[SHELVES];
    private final Text text = new Text();
    private final Currency[] currencies = new Currency[CURRENCIES];
    private final Value[] rates = new Value[CURRENCIES * CURRENCIES];
    private final Steps[] taxes = new Steps[KINDS];
    private final Steps[] discounts = new Steps[KINDS];
    private final Invoice[] invoices = new Invoice[INVOICES];
    private int invoiceCount = 0;
    private final Sharing sharing = new Sharing();
    private final Loan loan = new Loan();
    private final Ledger ledger = new Ledger();

    public Tillhouse() {
        for (int i = 0; i < CURRENCIES; i++) {
            currencies[i] = new Currency();
        }
        for (int i = 0; i < KINDS; i++) {
            taxes[i] = new Steps();
            discounts[i] = new Steps();
        }
    }

    // ---- values ----

    public int put(int shelf, long unscaled, int scale) throws IndexOutOfBoundsException, IllegalArgumentException {
        checkShelf(shelf);
        if (!Value.isInRange(unscaled, scale)) {
            throw new IllegalArgumentException("the scale or the number is out of range");
        }
        Value value = new Value(unscaled, scale);
        shelves[shelf] = value;
        return value.digits();
    }

    public int type(char sign) throws IllegalStateException {
        if (text.isFull()) {
            throw new IllegalStateException("the text has 24 signs");
        }
        return text.add(sign);
    }

    public int fault() {
        return text.firstFault();
    }

    public int read(int shelf) throws IndexOutOfBoundsException, IllegalArgumentException, ArithmeticException {
        checkShelf(shelf);
        if (text.firstFault() != Text.NO_FAULT) {
            throw new IllegalArgumentException("the text is no number");
        }
        Value value = text.value();
        shelves[shelf] = value;
        text.empty();
        return value.scale;
    }

    public int wipe() {
        return text.empty();
    }

    public long unscaled(int shelf) throws IndexOutOfBoundsException, NoSuchElementException {
        checkShelf(shelf);
        return valueOn(shelf).unscaled;
    }

    public int scale(int shelf) throws IndexOutOfBoundsException, NoSuchElementException {
        checkShelf(shelf);
        return valueOn(shelf).scale;
    }

    public int precision(int shelf) throws IndexOutOfBoundsException, NoSuchElementException {
        checkShelf(shelf);
        Value value = valueOn(shelf);
        return value.sign() * value.digits();
    }

    public int join(int one, int other, char act, int to) throws IndexOutOfBoundsException, IllegalArgumentException, NoSuchElementException, ArithmeticException {
        checkShelf(one);
        checkShelf(other);
        checkShelf(to);
        if (act != '+' && act != '-' && act != '*' && act != 'g' && act != 'l') {
            throw new IllegalArgumentException("there is no such act");
        }
        Value joined = joined(valueOn(one), valueOn(other), act);
        shelves[to] = joined;
        return joined.scale;
    }

    public int turn(int shelf, char act, int to) throws IndexOutOfBoundsException, IllegalArgumentException, NoSuchElementException, ArithmeticException {
        checkShelf(shelf);
        checkShelf(to);
        if (act != '-' && act != 'a' && act != 's') {
            throw new IllegalArgumentException("there is no such act");
        }
        Value turned = turned(valueOn(shelf), act);
        shelves[to] = turned;
        return turned.scale;
    }

    public int move(int shelf, int places, int to) throws IndexOutOfBoundsException, IllegalArgumentException, NoSuchElementException, ArithmeticException {
        checkShelf(shelf);
        checkShelf(to);
        if (places == 0 || places < -MOST_PLACES || places > MOST_PLACES) {
            throw new IllegalArgumentException("the places are out of range");
        }
        Value moved = valueOn(shelf).moved(places);
        shelves[to] = moved;
        return moved.scale;
    }

    public int setScale(int shelf, int scale, char mode, int to) throws IndexOutOfBoundsException, IllegalArgumentException, NoSuchElementException, ArithmeticException {
        checkShelf(shelf);
        checkShelf(to);
        checkScale(scale);
        checkMode(mode);
        Value rounded = valueOn(shelf).toScale(scale, mode);
        shelves[to] = rounded;
        return rounded.digits();
    }

    public int round(int shelf, int digits, char mode, int to) throws IndexOutOfBoundsException, IllegalArgumentException, NoSuchElementException, ArithmeticException {
        checkShelf(shelf);
        checkShelf(to);
        if (digits < 1 || digits > MOST_DIGITS) {
            throw new IllegalArgumentException("the digits are out of range");
        }
        checkMode(mode);
        Value rounded = valueOn(shelf).toDigits(digits, mode);
        shelves[to] = rounded;
        return rounded.scale;
    }

    public int divide(int one, int other, int scale, char mode, int to) throws IndexOutOfBoundsException, IllegalArgumentException, NoSuchElementException, ArithmeticException {
        checkShelf(one);
        checkShelf(other);
        checkShelf(to);
        checkScale(scale);
        checkMode(mode);
        Value quotient = valueOn(one).over(valueOn(other), scale, mode);
        shelves[to] = quotient;
        return quotient.digits();
    }

    public int divideExactly(int one, int other, int to) throws IndexOutOfBoundsException, NoSuchElementException, ArithmeticException {
        checkShelf(one);
        checkShelf(other);
        checkShelf(to);
        Value quotient = valueOn(one).exactlyOver(valueOn(other));
        shelves[to] = quotient;
        return quotient.scale;
    }

    public int compare(int one, int other) throws IndexOutOfBoundsException, NoSuchElementException {
        checkShelf(one);
        checkShelf(other);
        return valueOn(one).order(valueOn(other));
    }

    public boolean isEqual(int one, int other) throws IndexOutOfBoundsException, NoSuchElementException {
        checkShelf(one);
        checkShelf(other);
        Value first = valueOn(one);
        Value second = valueOn(other);
        return first.unscaled == second.unscaled && first.scale == second.scale;
    }

    private static Value joined(Value one, Value other, char act) {
        switch (act) {
            case '+':
                return one.plus(other);
            case '-':
                return one.minus(other);
            case '*':
                return one.times(other);
            case 'g':
                return one.order(other) >= 0 ? one : other;
            default:
                return one.order(other) <= 0 ? one : other;
        }
    }

    private static Value turned(Value value, char act) {
        switch (act) {
            case '-':
                return new Value(-value.unscaled, value.scale);
            case 'a':
                return new Value(Math.abs(value.unscaled), value.scale);
            default:
                return value.stripped();
        }
    }

    private static void checkShelf(int shelf) {
        if (shelf < 0 || shelf >= SHELVES) {
            throw new IndexOutOfBoundsException("there is no such shelf");
        }
    }

    private static void checkScale(int scale) {
        if (scale < LEAST_SCALE || scale > MOST_SCALE) {
            throw new IllegalArgumentException("the scale is out of range");
        }
    }

    private static void checkMode(char mode) {
        if (!Reckoning.isMode(mode)) {
            throw new IllegalArgumentException("there is no such rounding");
        }
    }

    private Value valueOn(int shelf) {
        Value value = shelves[shelf];
        if (value == null) {
            throw new NoSuchElementException("the shelf is empty");
        }
        return value;
    }

    // ---- currencies ----

    public int setCurrency(int currency, int digits, char mode, int cash) throws IndexOutOfBoundsException, IllegalArgumentException {
        checkCurrency(currency);
        checkRange(digits, 0, MOST_CURRENCY_DIGITS);
        checkMode(mode);
        checkRange(cash, 1, MOST_CASH);
        Currency changed = currencies[currency];
        int before = changed.digits;
        changed.digits = digits;
        changed.mode = mode;
        changed.cash = cash;
        return before;
    }

    public boolean setRate(int currency, int other, int shelf) throws IndexOutOfBoundsException, IllegalArgumentException, NoSuchElementException, ArithmeticException {
        checkCurrency(currency);
        checkCurrency(other);
        checkShelf(shelf);
        checkUnlike(currency, other);
        Value rate = valueOn(shelf);
        if (rate.sign() <= 0) {
            throw new ArithmeticException("the rate is not above 0");
        }
        boolean wasThere = hasRate(currency, other);
        rates[currency * CURRENCIES + other] = rate;
        return wasThere;
    }

    public long change(int currency, int other, long units) throws IndexOutOfBoundsException, IllegalArgumentException, NoSuchElementException, ArithmeticException {
        checkChange(currency, other, units);
        return changed(currency, other, units);
    }

    public long lost(int currency, int other, long units) throws IndexOutOfBoundsException, IllegalArgumentException, NoSuchElementException, ArithmeticException {
        checkChange(currency, other, units);
        // a missing rate back is told ahead of a refused rounding there
        checkRate(other, currency);
        return units - changed(other, currency, changed(currency, other, units));
    }

    private static void checkCurrency(int currency) {
        if (currency < 0 || currency >= CURRENCIES) {
            throw new IndexOutOfBoundsException("there is no such currency");
        }
    }

    private static void checkUnlike(int currency, int other) {
        if (currency == other) {
            throw new IllegalArgumentException("both are the same");
        }
    }

    private static void checkRange(long number, long least, long most) {
        if (number < least || number > most) {
            throw new IllegalArgumentException("a number is out of range");
        }
    }

    private boolean hasRate(int currency, int other) {
        return rates[currency * CURRENCIES + other] != null;
    }

    private void checkRate(int currency, int other) {
        if (!hasRate(currency, other)) {
            throw new NoSuchElementException("there is no rate");
        }
    }

    private void checkChange(int currency, int other, long units) {
        checkCurrency(currency);
        checkCurrency(other);
        checkUnlike(currency, other);
        checkRange(units, 0, MOST_MONEY);
    }

    private long changed(int currency, int other, long units) {
        Value rate = rates[currency * CURRENCIES + other];
        if (rate == null) {
            throw new NoSuchElementException("there is no rate");
        }
        int places = currencies[other].digits - currencies[currency].digits - rate.scale;
        return new Product(units, rate.unscaled).shifted(places, currencies[other].mode);
    }

    // ---- goods ----

    public int setTax(int kind, int day, int points) throws IndexOutOfBoundsException, IllegalArgumentException {
        checkKind(kind);
        checkRange(day, 0, LAST_DAY);
        checkRange(points, 0, MOST_POINTS);
        return taxes[kind].tell(day, points);
    }

    public int tax(int kind, int day) throws IndexOutOfBoundsException, IllegalArgumentException {
        checkKind(kind);
        checkRange(day, 0, LAST_DAY);
        return taxes[kind].amountAt(day);
    }

    public int setDiscount(int kind, int quantity, int permille) throws IndexOutOfBoundsException, IllegalArgumentException {
        checkKind(kind);
        checkRange(quantity, 1, MOST_QUANTITY);
        checkRange(permille, 0, MOST_PERMILLE);
        return discounts[kind].tell(quantity, permille);
    }

    private static void checkKind(int kind) {
        if (kind < 0 || kind >= KINDS) {
            throw new IndexOutOfBoundsException("there is no such kind");
        }
    }

    // ---- invoices ----

    public int open(int day, int currency, boolean isByLine) throws IndexOutOfBoundsException, IllegalArgumentException, IllegalStateException {
        checkCurrency(currency);
        checkRange(day, 0, LAST_DAY);
        if (invoiceCount >= INVOICES) {
            throw new IllegalStateException("there are 20 invoices");
        }
        invoices[invoiceCount] = new Invoice(day, currency, isByLine);
        invoiceCount++;
        return invoiceCount - 1;
    }

    public int line(int invoice, int kind, int quantity, int price) throws IndexOutOfBoundsException, IllegalArgumentException, UnsupportedOperationException, IllegalStateException {
        Invoice longer = invoiceAt(invoice);
        checkKind(kind);
        checkRange(quantity, 1, MOST_QUANTITY);
        checkRange(price, 0, MOST_PRICE);
        if (ledger.hasBooking(invoice)) {
            throw new UnsupportedOperationException("the invoice is booked");
        }
        if (longer.isFull()) {
            throw new IllegalStateException("the invoice has 12 lines");
        }
        int permille = discounts[kind].amountAt(quantity);
        long exactNet = (long) price * quantity * (1_000 - permille);
        return longer.add(exactNet, taxes[kind].amountAt(longer.day));
    }

    public long netOfLine(int invoice, int line) throws IndexOutOfBoundsException, ArithmeticException {
        Invoice asked = invoiceAt(invoice);
        if (line < 0 || line >= asked.lineCount) {
            throw new IndexOutOfBoundsException("there is no such line");
        }
        return asked.lineNet(line, modeOf(asked));
    }

    public long net(int invoice) throws IndexOutOfBoundsException, ArithmeticException {
        Invoice asked = invoiceAt(invoice);
        return asked.netSum(modeOf(asked));
    }

    public long taxOf(int invoice) throws IndexOutOfBoundsException, ArithmeticException {
        Invoice asked = invoiceAt(invoice);
        return asked.taxSum(modeOf(asked));
    }

    public long cash(int invoice) throws IndexOutOfBoundsException, ArithmeticException {
        Invoice asked = invoiceAt(invoice);
        long gross = asked.netSum(modeOf(asked)) + asked.taxSum(modeOf(asked));
        int cash = currencies[asked.currency].cash;
        // the gross is never below 0: farther from 0 is greater
        return Reckoning.quotient(gross, cash, 'h') * cash;
    }

    private Invoice invoiceAt(int number) {
        if (number < 0 || number >= invoiceCount) {
            throw new IndexOutOfBoundsException("there is no such invoice");
        }
        return invoices[number];
    }

    private char modeOf(Invoice invoice) {
        return currencies[invoice.currency].mode;
    }

    // ---- shares, interest, loans ----

    public int weigh(int weight) throws IllegalArgumentException, IllegalStateException {
        checkRange(weight, 0, MOST_WEIGHT);
        if (sharing.isFull()) {
            throw new IllegalStateException("12 weights are told");
        }
        return sharing.add(weight);
    }

    public int share(long units, char rule) throws IllegalArgumentException, UnsupportedOperationException {
        checkRange(units, 0, MOST_MONEY);
        if (rule != 'l' && rule != 'f' && rule != 'b') {
            throw new IllegalArgumentException("there is no such rule");
        }
        if (sharing.allWeights() == 0) {
            throw new UnsupportedOperationException("no weight above 0 is told");
        }
        return sharing.split(units, rule);
    }

    public long part(int number) throws NoSuchElementException {
        if (number < 0 || number >= sharing.partCount) {
            throw new NoSuchElementException("there is no such share");
        }
        return sharing.parts[number];
    }

    public long interest(long units, int points, int days, int year, char mode) throws IllegalArgumentException, ArithmeticException {
        checkRange(units, 0, MOST_MONEY);
        checkRange(points, 0, MOST_POINTS);
        checkRange(days, 0, MOST_DAYS);
        if (year != 360 && year != 365 && year != 366) {
            throw new IllegalArgumentException("there is no year of so many days");
        }
        checkMode(mode);
        return Reckoning.partOf(units * points, days, 10_000L * year, mode);
    }

    public int lend(long units, int points, long instalment) throws IllegalArgumentException, UnsupportedOperationException, IllegalStateException {
        checkRange(units, 1, MOST_MONEY);
        checkRange(points, 0, MOST_POINTS);
        checkRange(instalment, 1, MOST_MONEY);
        if (Loan.monthOf(units, points) >= instalment) {
            throw new UnsupportedOperationException("the first interest is not less than the instalment");
        }
        if (Loan.countFor(units, points, instalment) > Loan.MOST) {
            throw new IllegalStateException("there would be more than 120 instalments");
        }
        return loan.fill(units, points, instalment);
    }

    public long instalment(int number, char what) throws IllegalArgumentException, NoSuchElementException {
        if (what != 'i' && what != 'p' && what != 'o' && what != 's') {
            throw new IllegalArgumentException("there is no such letter");
        }
        if (number < 0 || number >= loan.count) {
            throw new NoSuchElementException("there is no such instalment");
        }
        switch (what) {
            case 'i':
                return loan.interests[number];
            case 'p':
                return loan.paid[number];
            case 'o':
                return loan.owed[number];
            default:
                return loan.interests[number] + loan.paid[number];
        }
    }

    // ---- the ledger ----

    public int post(int day, int account, int other, long units) throws IndexOutOfBoundsException, IllegalArgumentException, UnsupportedOperationException, IllegalStateException {
        checkAccount(account);
        checkAccount(other);
        checkRange(day, 0, LAST_DAY);
        checkRange(units, 1, MOST_MONEY);
        checkUnlike(account, other);
        checkNotShut(day);
        checkRoom(1);
        ledger.begin(day, Ledger.NO_INVOICE);
        return ledger.enter(account, other, units);
    }

    public int book(int invoice) throws IndexOutOfBoundsException, UnsupportedOperationException, NoSuchElementException, ArithmeticException, IllegalStateException {
        Invoice booked = invoiceAt(invoice);
        if (ledger.hasBooking(invoice)) {
            throw new UnsupportedOperationException("the invoice is booked");
        }
        checkNotShut(booked.day);
        if (booked.currency != HOME) {
            checkRate(booked.currency, HOME);
        }
        long net = booked.netSum(modeOf(booked));
        long gross = atHome(booked.currency, net + booked.taxSum(modeOf(booked)));
        net = atHome(booked.currency, net);
        if (net > MOST_MONEY || gross > MOST_MONEY) {
            throw new ArithmeticException("net or gross is too much");
        }
        long tax = gross - net;
        checkRoom((net > 0 ? 1 : 0) + (tax > 0 ? 1 : 0));
        ledger.begin(booked.day, invoice);
        if (net > 0) {
            ledger.enter(DEBTORS, SALES, net);
        }
        if (tax > 0) {
            ledger.enter(DEBTORS, TAXES, tax);
        }
        return ledger.count;
    }

    public boolean isBooked(int invoice) throws IndexOutOfBoundsException {
        invoiceAt(invoice);
        return ledger.hasBooking(invoice);
    }

    public long side(int account, int last, boolean isLeft) throws IndexOutOfBoundsException, IllegalArgumentException {
        checkAccount(account);
        checkAccount(last);
        if (last < account) {
            throw new IllegalArgumentException("the last account is less than the first one");
        }
        return ledger.sum(account, last, isLeft);
    }

    public int nextAccount(int account) throws NoSuchElementException {
        int next = ledger.leastAbove(account);
        if (next == ACCOUNTS) {
            throw new NoSuchElementException("there is no such account");
        }
        return next;
    }

    public int shut(int day) throws IllegalArgumentException, UnsupportedOperationException {
        checkRange(day, 0, LAST_DAY);
        checkNotShut(day);
        return ledger.shutUpTo(day);
    }

    public int undo() throws NoSuchElementException, UnsupportedOperationException {
        if (ledger.acts == 0) {
            throw new NoSuchElementException("there is no posting or booking");
        }
        checkNotShut(ledger.dayOfLatest());
        return ledger.dropLatest();
    }

    public boolean isSound() {
        return ledger.isEven() && sharing.addsUp() && loan.comesToNothing();
    }

    private static void checkAccount(int account) {
        if (account < 0 || account >= ACCOUNTS) {
            throw new IndexOutOfBoundsException("there is no such account");
        }
    }

    private void checkNotShut(int day) {
        if (ledger.isShut(day)) {
            throw new UnsupportedOperationException("the day is shut");
        }
    }

    private void checkRoom(int entries) {
        if (!ledger.hasRoom(entries)) {
            throw new IllegalStateException("there would be more than 200 entries");
        }
    }

    private long atHome(int currency, long units) {
        return currency == HOME ? units : changed(currency, HOME, units);
    }

    /** Powers of ten, cuts and roundings of whole numbers. */
    private static final class Reckoning {
        // what a cut leaves, measured by the unit it was cut to
        static final int NOTHING = 0;
        static final int BELOW_HALF = 1;
        static final int HALF = 2;
        static final int ABOVE_HALF = 3;

        static final long[] POWERS = {
            1L, 10L, 100L, 1_000L, 10_000L, 100_000L, 1_000_000L, 10_000_000L, 100_000_000L,
            1_000_000_000L, 10_000_000_000L, 100_000_000_000L, 1_000_000_000_000L,
            10_000_000_000_000L, 100_000_000_000_000L, 1_000_000_000_000_000L,
            10_000_000_000_000_000L, 100_000_000_000_000_000L, 1_000_000_000_000_000_000L};

        static boolean isMode(char mode) {
            switch (mode) {
                case 'u':
                case 'd':
                case 'c':
                case 'f':
                case 'h':
                case 'l':
                case 'e':
                case 'n':
                    return true;
                default:
                    return false;
            }
        }

        /** What a remainder, from 0, is of a divisor above it. */
        static int rest(long remainder, long divisor) {
            if (remainder == 0) {
                return NOTHING;
            }
            // twice the remainder might pass the end of long
            long lack = divisor - remainder;
            if (remainder == lack) {
                return HALF;
            }
            return remainder < lack ? BELOW_HALF : ABOVE_HALF;
        }

        /** The size of a number, cut to a size that left the rest, when it is rounded. */
        static long settled(long cut, int rest, boolean isNegative, char mode) {
            if (rest == NOTHING) {
                return cut;
            }
            return goesAway(cut, rest, isNegative, mode) ? cut + 1 : cut;
        }

        private static boolean goesAway(long cut, int rest, boolean isNegative, char mode) {
            switch (mode) {
                case 'u':
                    return true;
                case 'd':
                    return false;
                case 'c':
                    return !isNegative;
                case 'f':
                    return isNegative;
                case 'h':
                    return rest >= HALF;
                case 'l':
                    return rest == ABOVE_HALF;
                case 'e':
                    return rest == ABOVE_HALF || rest == HALF && cut % 2 == 1;
                default:
                    throw new ArithmeticException("it would have to be rounded");
            }
        }

        /** A number, from 0, divided by a divisor above 0, rounded. */
        static long quotient(long number, long divisor, char mode) {
            return partOf(number, 1, divisor, mode);
        }

        /** A number times a factor, both from 0, divided by a divisor above 0, rounded. */
        static long partOf(long number, int factor, long divisor, char mode) {
            if (divisor < 1) {
                throw new ArithmeticException("a divisor is not above 0");
            }
            // number * factor itself may pass the end of long
            long left = number % divisor * factor;
            long cut = number / divisor * factor + left / divisor;
            return settled(cut, rest(left % divisor, divisor), false, mode);
        }

        /** A number with so many zeros behind it, refused where it would pass the limit. */
        static long raised(long number, int zeros, long limit) {
            if (number == 0) {
                return 0;
            }
            if (zeros < 0 || zeros > MOST_DIGITS) {
                throw new ArithmeticException("it has too many digits");
            }
            long power = POWERS[zeros];
            if (Math.abs(number) > limit / power) {
                throw new ArithmeticException("it has too many digits");
            }
            return number * power;
        }

        static int digitsOf(long size) {
            for (int digits = 1; digits <= MOST_DIGITS; digits++) {
                if (size < POWERS[digits]) {
                    return digits;
                }
            }
            return MOST_DIGITS + 1;
        }
    }

    /** A decimal number that a shelf can hold. */
    private static final class Value {
        // of two numbers of 18 digits at most, none above this can come back to 18 digits by the other one
        private static final long MOST_ALIGNED = 2 * (MOST_UNSCALED + 1);

        final long unscaled;
        final int scale;

        Value(long unscaled, int scale) {
            this.unscaled = unscaled;
            this.scale = scale;
        }

        static boolean isInRange(long unscaled, int scale) {
            return unscaled >= -MOST_UNSCALED && unscaled <= MOST_UNSCALED
                && scale >= LEAST_SCALE && scale <= MOST_SCALE;
        }

        static Value checked(long unscaled, int scale) {
            if (!isInRange(unscaled, scale)) {
                throw new ArithmeticException("it has too many digits, or its scale is out of range");
            }
            return new Value(unscaled, scale);
        }

        private static Value signed(boolean isNegative, long size, int scale) {
            return checked(isNegative ? -size : size, scale);
        }

        private long size() {
            return Math.abs(unscaled);
        }

        int sign() {
            if (unscaled == 0) {
                return 0;
            }
            return unscaled < 0 ? -1 : 1;
        }

        int digits() {
            return Reckoning.digitsOf(size());
        }

        Value plus(Value other) {
            int common = Math.max(scale, other.scale);
            return checked(aligned(common) + other.aligned(common), common);
        }

        Value minus(Value other) {
            int common = Math.max(scale, other.scale);
            return checked(aligned(common) - other.aligned(common), common);
        }

        private long aligned(int common) {
            return Reckoning.raised(unscaled, common - scale, MOST_ALIGNED);
        }

        Value times(Value other) {
            long factor = other.size();
            if (factor != 0 && size() > MOST_UNSCALED / factor) {
                throw new ArithmeticException("it has too many digits");
            }
            return checked(unscaled * other.unscaled, scale + other.scale);
        }

        /** Below 0, 0 or above 0, as this one is less, alike or greater. */
        int order(Value other) {
            if (sign() != other.sign()) {
                return sign() < other.sign() ? -1 : 1;
            }
            return sign() * sizeOrder(other);
        }

        private int sizeOrder(Value other) {
            // by the place of the first digit: sizes that share it align within 18 digits
            int height = digits() - scale;
            int otherHeight = other.digits() - other.scale;
            if (height != otherHeight) {
                return height < otherHeight ? -1 : 1;
            }
            int common = Math.max(scale, other.scale);
            long one = Math.abs(aligned(common));
            long two = Math.abs(other.aligned(common));
            if (one == two) {
                return 0;
            }
            return one < two ? -1 : 1;
        }

        Value stripped() {
            if (unscaled == 0) {
                return new Value(0, 0);
            }
            long kept = unscaled;
            int zeros = 0;
            while (zeros < MOST_DIGITS && kept % 10 == 0) {
                kept /= 10;
                zeros++;
            }
            return checked(kept, scale - zeros);
        }

        Value moved(int places) {
            int wanted = scale + places;
            if (wanted >= 0) {
                return checked(unscaled, wanted);
            }
            return checked(Reckoning.raised(unscaled, -wanted, MOST_UNSCALED), 0);
        }

        Value toScale(int wanted, char mode) {
            if (wanted >= scale) {
                return checked(Reckoning.raised(unscaled, wanted - scale, MOST_UNSCALED), wanted);
            }
            return signed(unscaled < 0, sizeCut(scale - wanted, mode), wanted);
        }

        Value toDigits(int digits, char mode) {
            int surplus = digits() - digits;
            if (surplus <= 0) {
                return this;
            }
            long size = sizeCut(surplus, mode);
            // 99 may have become 100
            if (Reckoning.digitsOf(size) > digits) {
                size /= 10;
                surplus++;
            }
            return signed(unscaled < 0, size, scale - surplus);
        }

        private long sizeCut(int places, char mode) {
            // with more places than digits not even half a unit is there
            if (places < 0 || places > MOST_DIGITS) {
                int rest = unscaled == 0 ? Reckoning.NOTHING : Reckoning.BELOW_HALF;
                return Reckoning.settled(0, rest, unscaled < 0, mode);
            }
            long power = Reckoning.POWERS[places];
            int rest = Reckoning.rest(size() % power, power);
            return Reckoning.settled(size() / power, rest, unscaled < 0, mode);
        }

        Value over(Value other, int wanted, char mode) {
            other.checkDivisor();
            boolean isNegative = sign() * other.sign() < 0;
            int places = wanted - scale + other.scale;
            Division division = places < 0
                ? Division.byRaised(size(), other.size(), -places)
                : new Division(size(), other.size());
            for (int i = 0; i < places; i++) {
                division.bringDown();
            }
            return signed(isNegative, Reckoning.settled(division.cut, division.rest(), isNegative, mode), wanted);
        }

        Value exactlyOver(Value other) {
            other.checkDivisor();
            Division division = new Division(size(), other.size());
            int places = 0;
            // a divisor of 18 digits holds the 2 less than 60 times, and the 5 less often
            while (places < 60 && division.remainder != 0) {
                division.bringDown();
                places++;
            }
            if (division.remainder != 0) {
                throw new ArithmeticException("there is no scale with which it is exact");
            }
            return signed(sign() * other.sign() < 0, division.cut, scale - other.scale + places);
        }

        private void checkDivisor() {
            if (unscaled == 0) {
                throw new ArithmeticException("the second value is 0");
            }
        }
    }

    /** A long division of sizes of 18 digits at most, from place to place. */
    private static final class Division {
        private final long divisor;
        long cut;
        long remainder;

        /** Of a size, from 0, by a divisor above 0; who calls has looked at it. */
        Division(long size, long divisor) {
            this.divisor = Math.max(divisor, 1);
            cut = size / this.divisor;
            remainder = size % this.divisor;
        }

        /** A division by the divisor with so many zeros behind it. */
        static Division byRaised(long size, long divisor, int zeros) {
            // a divisor of more than twice the size leaves less than half, whatever it is
            if (zeros < 0 || zeros > MOST_DIGITS || divisor > Value.MOST_ALIGNED / Reckoning.POWERS[zeros]) {
                return new Division(size, Value.MOST_ALIGNED + 1);
            }
            return new Division(size, divisor * Reckoning.POWERS[zeros]);
        }

        void bringDown() {
            if (cut > MOST_UNSCALED / 10) {
                throw new ArithmeticException("it has too many digits");
            }
            // ten times the remainder would pass the end of long, five times does not
            long five = remainder * 5;
            long digit = five / divisor * 2;
            long left = five % divisor * 2;
            if (left >= divisor) {
                left -= divisor;
                digit++;
            }
            cut = cut * 10 + digit;
            remainder = left;
        }

        int rest() {
            return Reckoning.rest(remainder, divisor);
        }
    }

    /** The product of two numbers, from 0, of 18 digits at most: high times 10 to the power of 18, and low. */
    private static final class Product {
        private static final long HALF_WAY = 1_000_000_000L;
        private static final long WHOLE_WAY = MOST_UNSCALED + 1;

        private final long high;
        private final long low;

        Product(long one, long other) {
            long oneHigh = one / HALF_WAY;
            long oneLow = one % HALF_WAY;
            long otherHigh = other / HALF_WAY;
            long otherLow = other % HALF_WAY;
            long middle = oneHigh * otherLow + oneLow * otherHigh;
            long bottom = middle % HALF_WAY * HALF_WAY + oneLow * otherLow;
            high = oneHigh * otherHigh + middle / HALF_WAY + bottom / WHOLE_WAY;
            low = bottom % WHOLE_WAY;
        }

        /** The product times 10 to the power of the places, rounded; refused beyond 18 digits. */
        long shifted(int places, char mode) {
            if (places < 0) {
                return shortened(-places, mode);
            }
            if (high != 0) {
                throw new ArithmeticException("it has too many digits");
            }
            return Reckoning.raised(low, places, MOST_UNSCALED);
        }

        private long shortened(int places, char mode) {
            long rounded = Reckoning.settled(cutBy(places), restBy(places), false, mode);
            if (rounded > MOST_UNSCALED) {
                throw new ArithmeticException("it has too many digits");
            }
            return rounded;
        }

        private long cutBy(int places) {
            if (places < 0 || places > 2 * MOST_DIGITS) {
                return 0;
            }
            if (places > MOST_DIGITS) {
                return high / Reckoning.POWERS[places - MOST_DIGITS];
            }
            long power = Reckoning.POWERS[places];
            if (high >= power) {
                throw new ArithmeticException("it has too many digits");
            }
            return high * Reckoning.POWERS[MOST_DIGITS - places] + low / power;
        }

        private int restBy(int places) {
            if (places < 0 || places > 2 * MOST_DIGITS) {
                return high == 0 && low == 0 ? Reckoning.NOTHING : Reckoning.BELOW_HALF;
            }
            if (places <= MOST_DIGITS) {
                long power = Reckoning.POWERS[places];
                return Reckoning.rest(low % power, power);
            }
            long power = Reckoning.POWERS[places - MOST_DIGITS];
            int rest = Reckoning.rest(high % power, power);
            boolean isJust = rest == Reckoning.NOTHING || rest == Reckoning.HALF;
            // the low part is less than one of the high part: it lifts just what stands on a mark
            return isJust && low != 0 ? rest + 1 : rest;
        }
    }

    /** The text that is typed. */
    private static final class Text {
        static final int NO_FAULT = -1;

        private static final int MOST = 24;

        // how far the signs have come
        private static final int NOWHERE = -1;
        private static final int START = 0;
        private static final int SIGNED = 1;
        private static final int BARE_POINT = 2;
        private static final int WHOLE = 3;
        private static final int FRACTION = 4;
        private static final int MARK = 5;
        private static final int MARK_SIGNED = 6;
        private static final int ONE_DIGIT = 7;
        private static final int TWO_DIGITS = 8;
        private static final int THREE_DIGITS = 9;

        private final char[] signs = new char[MOST];
        private int length = 0;

        boolean isFull() {
            return length >= MOST;
        }

        int add(char sign) {
            if (length < MOST) {
                signs[length] = sign;
                length++;
            }
            return length;
        }

        int empty() {
            int before = length;
            length = 0;
            return before;
        }

        int firstFault() {
            int state = START;
            for (int i = 0; i < length; i++) {
                state = next(state, signs[i]);
                if (state == NOWHERE) {
                    return i;
                }
            }
            return isEnd(state) ? NO_FAULT : length;
        }

        private static boolean isEnd(int state) {
            return state == WHOLE || state == FRACTION || state >= ONE_DIGIT;
        }

        private static int next(int state, char sign) {
            switch (state) {
                case START:
                    return isPlusOrMinus(sign) ? SIGNED : nextBeforeDigits(sign);
                case SIGNED:
                    return nextBeforeDigits(sign);
                case WHOLE:
                    return sign == '.' ? FRACTION : nextAmongDigits(WHOLE, sign);
                case BARE_POINT:
                    return isDigit(sign) ? FRACTION : NOWHERE;
                case FRACTION:
                    return nextAmongDigits(FRACTION, sign);
                case MARK:
                    return isPlusOrMinus(sign) ? MARK_SIGNED : nextIfDigit(ONE_DIGIT, sign);
                case MARK_SIGNED:
                    return nextIfDigit(ONE_DIGIT, sign);
                case ONE_DIGIT:
                    return nextIfDigit(TWO_DIGITS, sign);
                case TWO_DIGITS:
                    return nextIfDigit(THREE_DIGITS, sign);
                default:
                    return NOWHERE;
            }
        }

        private static int nextBeforeDigits(char sign) {
            return sign == '.' ? BARE_POINT : nextIfDigit(WHOLE, sign);
        }

        private static int nextAmongDigits(int state, char sign) {
            return sign == 'e' || sign == 'E' ? MARK : nextIfDigit(state, sign);
        }

        private static int nextIfDigit(int state, char sign) {
            return isDigit(sign) ? state : NOWHERE;
        }

        private static boolean isDigit(char sign) {
            return sign >= '0' && sign <= '9';
        }

        private static boolean isPlusOrMinus(char sign) {
            return sign == '+' || sign == '-';
        }

        /** The value of a text without a fault. */
        Value value() {
            long unscaled = 0;
            int scale = 0;
            int exponent = 0;
            boolean isNegative = false;
            boolean isExponentNegative = false;
            int state = START;
            for (int i = 0; i < length; i++) {
                char sign = signs[i];
                state = next(state, sign);
                if (state == SIGNED) {
                    isNegative = sign == '-';
                } else if (state == MARK_SIGNED) {
                    isExponentNegative = sign == '-';
                } else if (isDigit(sign) && state >= ONE_DIGIT) {
                    exponent = exponent * 10 + (sign - '0');
                } else if (isDigit(sign)) {
                    unscaled = longer(unscaled, sign - '0');
                    scale += state == FRACTION ? 1 : 0;
                }
            }
            return Value.checked(isNegative ? -unscaled : unscaled,
                isExponentNegative ? scale + exponent : scale - exponent);
        }

        private static long longer(long unscaled, int digit) {
            if (unscaled > MOST_UNSCALED / 10) {
                throw new ArithmeticException("it has too many digits");
            }
            return unscaled * 10 + digit;
        }
    }

    /** What a currency has. */
    private static final class Currency {
        int digits = 2;
        char mode = 'h';
        int cash = 1;
    }

    /** Amounts, each told from a number on. */
    private static final class Steps {
        private int[] froms = new int[4];
        private int[] amounts = new int[4];
        private int count = 0;

        int tell(int from, int amount) {
            int place = placeOf(from);
            if (place >= froms.length) {
                makeRoom();
            }
            froms[place] = from;
            amounts[place] = amount;
            count = Math.max(count, place + 1);
            return count;
        }

        private int placeOf(int from) {
            for (int i = 0; i < count; i++) {
                if (froms[i] == from) {
                    return i;
                }
            }
            return count;
        }

        private void makeRoom() {
            // a place is kept for each unlike number, and these are less than a million
            froms = Arrays.copyOf(froms, froms.length * 2);
            amounts = Arrays.copyOf(amounts, froms.length);
        }

        int amountAt(int number) {
            int nearest = -1;
            int amount = 0;
            for (int i = 0; i < count; i++) {
                if (froms[i] <= number && froms[i] > nearest) {
                    nearest = froms[i];
                    amount = amounts[i];
                }
            }
            return amount;
        }
    }

    /** An invoice and its lines. */
    private static final class Invoice {
        private static final int MOST_LINES = 12;
        // an exact net is told in so many parts of a unit: 1000ths of a quantity, 1000ths of a discount
        private static final long NET_PARTS = 1_000_000L;
        private static final long TAX_PARTS = 10_000L;

        final int day;
        final int currency;
        int lineCount = 0;
        private final boolean isByLine;
        private final long[] exactNets = new long[MOST_LINES];
        private final int[] points = new int[MOST_LINES];

        Invoice(int day, int currency, boolean isByLine) {
            this.day = day;
            this.currency = currency;
            this.isByLine = isByLine;
        }

        boolean isFull() {
            return lineCount >= MOST_LINES;
        }

        int add(long exactNet, int tax) {
            if (lineCount < MOST_LINES) {
                exactNets[lineCount] = exactNet;
                points[lineCount] = tax;
                lineCount++;
            }
            return lineCount - 1;
        }

        long lineNet(int line, char mode) {
            return Reckoning.quotient(exactNets[line], NET_PARTS, mode);
        }

        long netSum(char mode) {
            long sum = 0;
            for (int i = 0; i < lineCount; i++) {
                sum += isByLine ? lineNet(i, mode) : exactNets[i];
            }
            return isByLine ? sum : Reckoning.quotient(sum, NET_PARTS, mode);
        }

        long taxSum(char mode) {
            long sum = 0;
            for (int i = 0; i < lineCount; i++) {
                sum += isByLine ? lineTax(i, mode) : taxOfLikeLines(i, mode);
            }
            return sum;
        }

        private long lineTax(int line, char mode) {
            return Reckoning.partOf(lineNet(line, mode), points[line], TAX_PARTS, mode);
        }

        /** The tax of all lines with the tax of this one, told by the first of them; 0 by the others. */
        private long taxOfLikeLines(int line, char mode) {
            long exactNet = 0;
            for (int i = 0; i < lineCount; i++) {
                if (points[i] == points[line]) {
                    if (i < line) {
                        return 0;
                    }
                    exactNet += exactNets[i];
                }
            }
            return Reckoning.partOf(exactNet, points[line], NET_PARTS * TAX_PARTS, mode);
        }
    }

    /** Weights, and the shares of the latest sum. */
    private static final class Sharing {
        private static final int MOST = 12;

        private final int[] weights = new int[MOST];
        private int weightCount = 0;
        final long[] parts = new long[MOST];
        int partCount = 0;
        private final long[] cuts = new long[MOST];
        private long shared = 0;

        boolean isFull() {
            return weightCount >= MOST;
        }

        int add(int weight) {
            if (weightCount < MOST) {
                weights[weightCount] = weight;
                weightCount++;
            }
            return weightCount;
        }

        long allWeights() {
            long all = 0;
            for (int i = 0; i < weightCount; i++) {
                all += weights[i];
            }
            return all;
        }

        int split(long units, char rule) {
            int left = (int) cutParts(units, Math.max(allWeights(), 1));
            partCount = weightCount;
            weightCount = 0;
            shared = units;
            for (int i = 0; i < left; i++) {
                giveOne(rule);
            }
            return left;
        }

        /** Sets the parts as they are cut, and returns what is left. */
        private long cutParts(long units, long all) {
            long left = units;
            for (int i = 0; i < weightCount; i++) {
                long exact = units * weights[i];
                parts[i] = exact / all;
                cuts[i] = exact % all;
                left -= parts[i];
            }
            return left;
        }

        private void giveOne(char rule) {
            int first = -1;
            for (int i = 0; i < partCount; i++) {
                if (cuts[i] > 0 && (first < 0 || isAhead(i, first, rule))) {
                    first = i;
                }
            }
            if (first >= 0) {
                parts[first]++;
                cuts[first] = 0;
            }
        }

        /** Whether a share goes ahead of another one that was told earlier. */
        private boolean isAhead(int later, int earlier, char rule) {
            return rule == 'b' || rule == 'l' && cuts[later] > cuts[earlier];
        }

        boolean addsUp() {
            long sum = 0;
            for (int i = 0; i < partCount; i++) {
                sum += parts[i];
            }
            return sum == shared;
        }
    }

    /** The table of instalments. */
    private static final class Loan {
        static final int MOST = 120;

        private static final long PARTS_A_MONTH = 12 * 10_000L;

        final long[] interests = new long[MOST];
        final long[] paid = new long[MOST];
        final long[] owed = new long[MOST];
        int count = 0;
        private long lent = 0;

        /** The interest of a month. */
        static long monthOf(long owed, int points) {
            return Reckoning.quotient(owed * points, PARTS_A_MONTH, 'e');
        }

        private static long paidOf(long owed, int points, long instalment) {
            return Math.min(owed, instalment - monthOf(owed, points));
        }

        /** How many instalments there would be, or one more than the most. */
        static int countFor(long units, int points, long instalment) {
            long left = units;
            int months = 0;
            while (left > 0 && months <= MOST) {
                left -= paidOf(left, points, instalment);
                months++;
            }
            return months;
        }

        int fill(long units, int points, long instalment) {
            long left = units;
            int months = 0;
            while (left > 0 && months < MOST) {
                interests[months] = monthOf(left, points);
                paid[months] = paidOf(left, points, instalment);
                left -= paid[months];
                owed[months] = left;
                months++;
            }
            lent = units;
            count = months;
            return count;
        }

        boolean comesToNothing() {
            long left = lent;
            for (int i = 0; i < count; i++) {
                if (owed[i] != left - paid[i]) {
                    return false;
                }
                left = owed[i];
            }
            return left == 0;
        }
    }

    /** The entries, and the postings and bookings (acts) that made them. */
    private static final class Ledger {
        static final int NO_INVOICE = -1;

        private static final int MOST = 200;
        // a posting has an entry; a booking may have none, but each invoice has one booking at most
        private static final int MOST_ACTS = MOST + INVOICES;

        private final int[] lefts = new int[MOST];
        private final int[] rights = new int[MOST];
        private final long[] units = new long[MOST];
        private final int[] days = new int[MOST];
        int count = 0;

        private final int[] actDays = new int[MOST_ACTS];
        private final int[] actInvoices = new int[MOST_ACTS];
        private final int[] actStarts = new int[MOST_ACTS];
        int acts = 0;

        private int shutDay = -1;

        boolean hasRoom(int entries) {
            return count + entries <= MOST && acts < MOST_ACTS;
        }

        /** Begins an act; the entries that come then are its own. */
        void begin(int day, int invoice) {
            if (acts < MOST_ACTS) {
                actDays[acts] = day;
                actInvoices[acts] = invoice;
                actStarts[acts] = count;
                acts++;
            }
        }

        /** Adds an entry to the latest act. */
        int enter(int left, int right, long money) {
            if (count < MOST && acts > 0) {
                lefts[count] = left;
                rights[count] = right;
                units[count] = money;
                days[count] = actDays[acts - 1];
                count++;
            }
            return count;
        }

        boolean hasBooking(int invoice) {
            for (int i = 0; i < acts; i++) {
                if (actInvoices[i] == invoice) {
                    return true;
                }
            }
            return false;
        }

        int dayOfLatest() {
            return acts > 0 ? actDays[acts - 1] : -1;
        }

        int dropLatest() {
            if (acts > 0) {
                acts--;
                count = actStarts[acts];
            }
            return count;
        }

        boolean isShut(int day) {
            return day <= shutDay;
        }

        int shutUpTo(int day) {
            shutDay = day;
            int shutEntries = 0;
            for (int i = 0; i < count; i++) {
                shutEntries += isShut(days[i]) ? 1 : 0;
            }
            return shutEntries;
        }

        long sum(int first, int last, boolean isLeft) {
            long sum = 0;
            for (int i = 0; i < count; i++) {
                int account = isLeft ? lefts[i] : rights[i];
                sum += account >= first && account <= last ? units[i] : 0;
            }
            return sum;
        }

        /** The least account above a number that has an entry, or the number of accounts. */
        int leastAbove(int number) {
            int least = ACCOUNTS;
            for (int i = 0; i < count; i++) {
                if (lefts[i] > number) {
                    least = Math.min(least, lefts[i]);
                }
                if (rights[i] > number) {
                    least = Math.min(least, rights[i]);
                }
            }
            return least;
        }

        boolean isEven() {
            return sum(0, ACCOUNTS - 1, true) == sum(0, ACCOUNTS - 1, false);
        }
    }
}
