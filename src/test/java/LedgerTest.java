/** Promises 38 to 45: the ledger. */
public final class LedgerTest {
    private static final Runs RUNS = new Runs("LedgerTest");

    public static void main(String[] args) {
        post();
        book();
        bookAbroad();
        bookingLimits();
        isBooked();
        side();
        nextAccount();
        shut();
        undo();
        isSound();
        RUNS.end(38, 45);
    }

    private static void post() {
        RUNS.promise(38, """
            post(0, 0, 99, 1) = 1
            post(9999, 99, 0, 1000000000000) = 2
            post(-1, 100, 0, 0) = throws.IndexOutOfBoundsException
            post(0, -1, 0, 1) = throws.IndexOutOfBoundsException
            post(0, 0, 100, 1) = throws.IndexOutOfBoundsException
            post(0, 0, -1, 1) = throws.IndexOutOfBoundsException
            post(-1, 0, 1, 1) = throws.IllegalArgumentException
            post(10000, 0, 1, 1) = throws.IllegalArgumentException
            post(0, 0, 1, 0) = throws.IllegalArgumentException
            post(0, 0, 1, 1000000000001) = throws.IllegalArgumentException
            post(0, 0, 1, -9223372036854775808) = throws.IllegalArgumentException
            post(0, 5, 5, 1) = throws.IllegalArgumentException
            shut(7) = 1
            post(7, 5, 5, 1) = throws.IllegalArgumentException
            post(7, 5, 6, 1) = throws.UnsupportedOperationException
            post(0, 5, 6, 1) = throws.UnsupportedOperationException
            post(8, 5, 6, 1) = 3
            side(5, 5, true) = 1
            side(6, 6, false) = 1
            side(6, 6, true) = 0
            196 times post(8, 5, 6, 1)
            post(8, 5, 6, 1) = 200
            post(8, 5, 6, 1) = throws.IllegalStateException
            post(7, 5, 6, 1) = throws.UnsupportedOperationException
            post(8, 5, 5, 1) = throws.IllegalArgumentException
            side(5, 5, true) = 198
            undo() = 199
            post(8, 5, 6, 1) = 200
            """);
    }

    private static void book() {
        RUNS.promise(39, """
            setTax(0, 0, 2000) = 1
            open(10, 0, true) = 0
            line(0, 0, 1000, 100) = 0
            book(1) = throws.IndexOutOfBoundsException
            book(-1) = throws.IndexOutOfBoundsException
            book(0) = 2
            book(0) = throws.UnsupportedOperationException
            side(1, 1, true) = 120
            side(2, 2, false) = 100
            side(3, 3, false) = 20
            side(0, 99, true) = 120
            side(0, 99, false) = 120
            open(10, 0, true) = 1
            line(1, 1, 1000, 50) = 0
            book(1) = 3
            open(10, 0, true) = 2
            book(2) = 3
            isBooked(2) = true
            book(2) = throws.UnsupportedOperationException
            shut(20) = 3
            open(20, 0, true) = 3
            book(3) = throws.UnsupportedOperationException
            open(21, 0, true) = 4
            line(4, 1, 500, 1) = 0
            setCurrency(0, 2, 'n', 1) = 2
            book(4) = throws.ArithmeticException
            isBooked(4) = false
            setCurrency(0, 2, 'd', 1) = 2
            book(4) = 3
            isBooked(4) = true
            undo() = 3
            isBooked(4) = false
            setCurrency(0, 2, 'h', 1) = 2
            book(4) = 4
            """);
    }

    private static void bookAbroad() {
        // net and gross are changed, the tax is what is between them
        RUNS.promise(39, """
            setTax(0, 0, 2000) = 1
            put(0, 15, 1)
            open(10, 1, true) = 0
            line(0, 0, 1000, 7) = 0
            book(0) = throws.NoSuchElementException
            setRate(0, 1, 0) = false
            book(0) = throws.NoSuchElementException
            setRate(1, 0, 0) = false
            net(0) = 7
            taxOf(0) = 1
            book(0) = 2
            side(2, 2, false) = 11
            side(3, 3, false) = 1
            side(1, 1, true) = 12
            """);
        RUNS.promise(39, """
            put(0, 3, 1)
            setRate(1, 0, 0) = false
            setTax(0, 0, 1000) = 1
            open(10, 1, true) = 0
            line(0, 0, 1000, 10) = 0
            net(0) = 10
            taxOf(0) = 1
            book(0) = 1
            side(2, 2, false) = 3
            open(10, 1, true) = 1
            line(1, 0, 1000, 1) = 0
            book(1) = 1
            isBooked(1) = true
            setCurrency(0, 2, 'n', 1) = 2
            open(10, 1, true) = 2
            book(2) = 1
            open(10, 1, true) = 3
            line(3, 1, 1000, 1) = 0
            book(3) = throws.ArithmeticException
            line(3, 1, 1000, 9) = 1
            book(3) = 2
            open(10, 1, true) = 4
            line(4, 0, 1000, 10) = 0
            book(4) = throws.ArithmeticException
            isBooked(4) = false
            undo() = 1
            isBooked(3) = false
            """);
        // the net is 0 at home, the gross is not
        RUNS.promise(39, """
            put(0, 1, 0)
            setCurrency(1, 2, 'h', 1) = 2
            setCurrency(0, 0, 'd', 1) = 2
            setRate(1, 0, 0) = false
            setTax(0, 0, 1000) = 1
            open(10, 1, true) = 0
            line(0, 0, 1000, 95) = 0
            book(0) = 1
            side(2, 2, false) = 0
            side(3, 3, false) = 1
            side(1, 1, true) = 1
            undo() = 0
            nextAccount(0) = throws.NoSuchElementException
            """);
        // a missing rate is told behind a shut day, and ahead of a refused rounding
        RUNS.promise(39, """
            open(10, 1, true) = 0
            line(0, 0, 500, 1) = 0
            setCurrency(1, 2, 'n', 1) = 2
            book(0) = throws.NoSuchElementException
            put(0, 1, 0)
            setRate(1, 0, 0) = false
            book(0) = throws.ArithmeticException
            shut(10) = 0
            book(0) = throws.UnsupportedOperationException
            open(10, 2, true) = 1
            book(1) = throws.UnsupportedOperationException
            open(11, 2, true) = 2
            book(2) = throws.NoSuchElementException
            """);
    }

    private static void bookingLimits() {
        // 1000000000000 at home is not above it, one more is; a net that is not, with a gross that is
        RUNS.promise(39, """
            put(0, 1, -6)
            setRate(1, 0, 0) = false
            setTax(1, 0, 1) = 1
            open(10, 1, true) = 0
            line(0, 0, 1000, 1000000) = 0
            book(0) = 1
            side(1, 1, true) = 1000000000000
            open(10, 1, true) = 1
            line(1, 0, 1000, 1000001) = 0
            book(1) = throws.ArithmeticException
            open(10, 1, true) = 2
            line(2, 1, 1000, 1000000) = 0
            book(2) = throws.ArithmeticException
            put(0, 1, -18)
            setRate(1, 0, 0) = true
            book(2) = throws.ArithmeticException
            isBooked(1) = false
            isBooked(2) = false
            side(0, 99, false) = 1000000000000
            """);
        // 200 entries
        RUNS.promise(39, """
            setTax(0, 0, 5000) = 1
            open(10, 0, true) = 0
            line(0, 0, 1000, 10) = 0
            open(10, 0, true) = 1
            line(1, 1, 1000, 10) = 0
            open(10, 0, true) = 2
            199 times post(10, 1, 2, 1)
            book(0) = throws.IllegalStateException
            isBooked(0) = false
            side(0, 99, true) = 199
            book(1) = 200
            book(0) = throws.IllegalStateException
            book(2) = 200
            isBooked(2) = true
            book(2) = throws.UnsupportedOperationException
            undo() = 200
            undo() = 199
            undo() = 198
            book(0) = 200
            setCurrency(0, 2, 'n', 1) = 2
            open(10, 0, true) = 3
            line(3, 1, 500, 1) = 0
            book(3) = throws.ArithmeticException
            """);
        // entries of one unit each
        RUNS.promise(39, """
            setTax(0, 0, 5000) = 1
            open(10, 0, true) = 0
            line(0, 0, 1000, 1) = 0
            taxOf(0) = 1
            199 times post(10, 1, 2, 1)
            book(0) = throws.IllegalStateException
            undo() = 198
            book(0) = 200
            undo() = 198
            open(10, 0, true) = 1
            line(1, 1, 1000, 1) = 0
            post(10, 1, 2, 1) = 199
            post(10, 1, 2, 1) = 200
            book(1) = throws.IllegalStateException
            """);
        // all bookings without an entry, and all entries
        StringBuilder calls = new StringBuilder("200 times post(10, 1, 2, 1)\n");
        for (int i = 0; i < 20; i++) {
            calls.append("open(10, 0, true) = " + i + "\nbook(" + i + ") = 200\nisBooked(" + i + ") = true\n");
        }
        for (int i = 19; i >= 0; i--) {
            calls.append("undo() = 200\nisBooked(" + i + ") = false\n");
        }
        RUNS.promise(39, calls + "undo() = 199\n");
    }

    private static void isBooked() {
        RUNS.promise(40, """
            isBooked(0) = throws.IndexOutOfBoundsException
            open(10, 0, true) = 0
            open(10, 0, true) = 1
            isBooked(0) = false
            isBooked(2) = throws.IndexOutOfBoundsException
            isBooked(-1) = throws.IndexOutOfBoundsException
            post(10, 1, 2, 5) = 1
            isBooked(0) = false
            book(1) = 1
            isBooked(0) = false
            isBooked(1) = true
            book(0) = 1
            isBooked(0) = true
            undo() = 1
            isBooked(0) = false
            isBooked(1) = true
            undo() = 1
            isBooked(1) = false
            """);
    }

    private static void side() {
        RUNS.promise(41, """
            side(0, 99, true) = 0
            post(5, 10, 20, 700) = 1
            post(6, 20, 30, 300) = 2
            post(6, 0, 99, 5) = 3
            post(6, 99, 0, 7) = 4
            side(0, 99, true) = 1012
            side(0, 99, false) = 1012
            side(10, 10, true) = 700
            side(10, 10, false) = 0
            side(20, 20, true) = 300
            side(20, 20, false) = 700
            side(10, 20, true) = 1000
            side(11, 20, true) = 300
            side(10, 19, true) = 700
            side(0, 0, true) = 5
            side(0, 0, false) = 7
            side(99, 99, true) = 7
            side(99, 99, false) = 5
            side(21, 98, false) = 300
            side(20, 19, true) = throws.IllegalArgumentException
            side(100, 0, true) = throws.IndexOutOfBoundsException
            side(0, 100, true) = throws.IndexOutOfBoundsException
            side(-1, 0, true) = throws.IndexOutOfBoundsException
            side(0, -1, true) = throws.IndexOutOfBoundsException
            """);
        RUNS.promise(41, """
            200 times post(5, 10, 20, 1000000000000)
            side(0, 99, true) = 200000000000000
            side(20, 20, false) = 200000000000000
            """);
    }

    private static void nextAccount() {
        RUNS.promise(42, """
            nextAccount(-1) = throws.NoSuchElementException
            post(5, 10, 20, 700) = 1
            post(6, 99, 0, 300) = 2
            nextAccount(-2147483648) = 0
            nextAccount(-1) = 0
            nextAccount(0) = 10
            nextAccount(9) = 10
            nextAccount(10) = 20
            nextAccount(19) = 20
            nextAccount(20) = 99
            nextAccount(98) = 99
            nextAccount(99) = throws.NoSuchElementException
            nextAccount(2147483647) = throws.NoSuchElementException
            undo() = 1
            nextAccount(-1) = 10
            nextAccount(20) = throws.NoSuchElementException
            """);
    }

    private static void shut() {
        RUNS.promise(43, """
            post(5, 1, 2, 1) = 1
            post(7, 1, 2, 1) = 2
            post(6, 1, 2, 1) = 3
            shut(10000) = throws.IllegalArgumentException
            shut(-1) = throws.IllegalArgumentException
            shut(5) = 1
            shut(5) = throws.UnsupportedOperationException
            shut(0) = throws.UnsupportedOperationException
            shut(-1) = throws.IllegalArgumentException
            shut(6) = 2
            post(6, 1, 2, 1) = throws.UnsupportedOperationException
            post(7, 1, 2, 1) = 4
            shut(9999) = 4
            shut(9999) = throws.UnsupportedOperationException
            post(9999, 1, 2, 1) = throws.UnsupportedOperationException
            """);
        RUNS.promise(43, """
            shut(0) = 0
            post(0, 1, 2, 1) = throws.UnsupportedOperationException
            post(1, 1, 2, 1) = 1
            undo() = 0
            shut(1) = 0
            """);
    }

    private static void undo() {
        RUNS.promise(44, """
            undo() = throws.NoSuchElementException
            setTax(0, 0, 5000) = 1
            open(6, 0, true) = 0
            line(0, 0, 1000, 10) = 0
            open(5, 0, true) = 1
            post(5, 10, 20, 7) = 1
            book(0) = 3
            post(7, 11, 21, 8) = 4
            book(1) = 4
            undo() = 4
            isBooked(1) = false
            undo() = 3
            side(11, 11, true) = 0
            isBooked(0) = true
            undo() = 1
            isBooked(0) = false
            side(0, 99, true) = 7
            book(1) = 1
            book(0) = 3
            undo() = 1
            undo() = 1
            undo() = 0
            undo() = throws.NoSuchElementException
            """);
        // the latest one decides, by its day, with entries or without
        RUNS.promise(44, """
            post(9, 10, 20, 7) = 1
            post(4, 10, 20, 7) = 2
            shut(5) = 1
            undo() = throws.UnsupportedOperationException
            post(6, 10, 20, 7) = 3
            undo() = 2
            undo() = throws.UnsupportedOperationException
            open(7, 0, true) = 0
            book(0) = 2
            shut(7) = 1
            undo() = throws.UnsupportedOperationException
            isBooked(0) = true
            side(0, 99, true) = 14
            """);
    }

    private static void isSound() {
        RUNS.promise(45, """
            isSound() = true
            post(5, 10, 20, 7) = 1
            isSound() = true
            weigh(1) = 1
            weigh(2) = 2
            isSound() = true
            share(100, 'f') = 1
            isSound() = true
            lend(1000, 1200, 400) = 3
            isSound() = true
            share(5, 'f') = throws.UnsupportedOperationException
            lend(1000, 1200, 1) = throws.UnsupportedOperationException
            isSound() = true
            undo() = 0
            isSound() = true
            lend(1, 0, 7) = 1
            isSound() = true
            weigh(9) = 1
            share(1000000000000, 'b') = 0
            isSound() = true
            """);
    }
}
