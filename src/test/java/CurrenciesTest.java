/** Promises 19 to 22: currencies, rates and changed money. */
public final class CurrenciesTest {
    private static final Runs RUNS = new Runs("CurrenciesTest");

    public static void main(String[] args) {
        setCurrency();
        setRate();
        change();
        lost();
        RUNS.end(19, 22);
    }

    private static void setCurrency() {
        RUNS.promise(19, """
            setCurrency(0, 0, 'n', 100) = 2
            setCurrency(0, 3, 'u', 1) = 0
            setCurrency(0, 1, 'd', 50) = 3
            setCurrency(0, 2, 'c', 5) = 1
            setCurrency(0, 2, 'f', 5) = 2
            setCurrency(0, 2, 'l', 5) = 2
            setCurrency(0, 2, 'e', 5) = 2
            setCurrency(3, 3, 'h', 1) = 2
            setCurrency(4, 9, 'x', 0) = throws.IndexOutOfBoundsException
            setCurrency(-1, 2, 'h', 1) = throws.IndexOutOfBoundsException
            setCurrency(3, 4, 'h', 1) = throws.IllegalArgumentException
            setCurrency(3, -1, 'h', 1) = throws.IllegalArgumentException
            setCurrency(3, 2, 'x', 1) = throws.IllegalArgumentException
            setCurrency(3, 2, 'h', 0) = throws.IllegalArgumentException
            setCurrency(3, 2, 'h', 101) = throws.IllegalArgumentException
            setCurrency(3, 1, 'h', 1) = 3
            """);
        // a refused call leaves rounding and cash as they are
        RUNS.promise(19, """
            setCurrency(0, 2, 'd', 10) = 2
            setCurrency(0, 2, 'u', 101) = throws.IllegalArgumentException
            setCurrency(0, 4, 'u', 7) = throws.IllegalArgumentException
            open(0, 0, true) = 0
            line(0, 0, 1500, 9) = 0
            net(0) = 13
            cash(0) = 10
            """);
    }

    private static void setRate() {
        RUNS.promise(20, """
            put(0, 15, 1)
            put(1, 0, 0)
            put(2, -1, 0)
            setRate(0, 1, 0) = false
            setRate(0, 1, 0) = true
            setRate(1, 0, 0) = false
            setRate(3, 2, 0) = false
            change(2, 3, 100) = throws.NoSuchElementException
            change(3, 2, 100) = 150
            put(0, 99, 0)
            change(0, 1, 100) = 150
            setRate(0, 1, 0) = true
            change(0, 1, 100) = 9900
            setRate(0, 1, 1) = throws.ArithmeticException
            setRate(0, 1, 2) = throws.ArithmeticException
            change(0, 1, 100) = 9900
            setRate(0, 1, 3) = throws.NoSuchElementException
            setRate(1, 1, 3) = throws.IllegalArgumentException
            setRate(4, 4, 0) = throws.IndexOutOfBoundsException
            setRate(-1, 0, 0) = throws.IndexOutOfBoundsException
            setRate(0, 4, 0) = throws.IndexOutOfBoundsException
            setRate(0, -1, 0) = throws.IndexOutOfBoundsException
            setRate(1, 1, 12) = throws.IndexOutOfBoundsException
            setRate(1, 1, -1) = throws.IndexOutOfBoundsException
            setRate(0, 2, 2) = throws.ArithmeticException
            setRate(0, 2, 0) = false
            """);
    }

    private static void change() {
        String[] cases = {
            // rate, its scale; digits from and to, rounding, money; what it is then
            "15 1 2 2 h 101 152", "15 1 2 2 e 101 152", "15 1 2 2 e 103 154", "15 1 2 2 l 101 151", "15 1 2 2 d 101 151",
            "15 1 2 2 u 101 152", "15 1 2 2 c 101 152", "15 1 2 2 f 101 151", "15 1 2 2 n 101 x", "15 1 2 2 n 102 153",
            "15 1 2 0 d 101 1", "15 1 2 0 u 101 2", "15 1 0 3 n 7 10500", "15 1 3 0 h 333 0", "15 1 3 0 h 334 1",
            "999999999999999999 0 2 2 h 1000000000000 x", "999999999999999999 0 2 2 n 1 999999999999999999",
            "999999999999999999 0 2 2 h 2 x", "999999999999999999 12 2 2 n 1000000000000 999999999999999999",
            "999999999999999999 11 2 2 h 1000000000000 x", "1 36 2 2 h 1000000000000 0", "1 36 2 2 u 1000000000000 1",
            "1 36 2 2 c 1 1", "1 36 2 2 f 1 0", "1 36 2 2 n 1 x", "1 36 2 2 n 0 0", "1 36 3 0 u 1 1", "1 36 3 0 n 0 0",
            "1 36 3 0 h 1000000000000 0", "999999999999999999 36 3 0 c 1000000000000 1",
            "999999999999999999 36 3 0 l 1000000000000 0", "999999999999999999 34 3 0 u 1000000000000 1",
            "1 -18 3 0 n 1 1000000000000000", "1 -18 3 0 n 999 999000000000000000", "1 -18 3 0 n 1000 x",
            "1 -18 0 3 n 1 x", "1 -18 0 3 n 0 0", "1 -17 2 2 n 9 900000000000000000", "1 -17 2 2 n 10 x",
            "1 -18 2 2 n 1 x", "100000000000000000 19 2 2 h 50 1", "100000000000000000 19 2 2 e 50 0",
            "100000000000000000 19 2 2 l 50 0", "100000000000000000 19 2 2 l 51 1", "100000000000000000 19 2 2 n 50 x",
            "500000000000000001 19 2 2 l 10 1", "500000000000000001 19 2 2 e 10 1", "499999999999999999 19 2 2 h 10 0",
            "100000000000000001 19 2 2 u 100 2", "100000000000000001 19 2 2 h 100 1", "100000000000000001 19 2 2 n 100 x",
            "100000000000000000 19 2 2 n 100 1", "999999999990000000 11 2 2 h 100000000001 x",
            "999999999990000000 11 2 2 d 100000000001 999999999999999999", "123456789012345678 17 2 2 d 987654321098 1219326311369",
            "123456789012345678 6 2 2 n 987654000000 x", "341486765328446386 13 2 2 d 418542625292 14292676726304107",
            "489568564877214635 12 2 2 h 487878315815 238849886908262038",
            "452868065513989786 19 2 2 h 446588483985 20224566282",
            "395357543911759091 12 2 2 h 924415624430 365474690828299925"};
        for (String each : cases) {
            String[] words = each.split(" ");
            String due = words[6].equals("x") ? "throws.ArithmeticException" : words[6];
            // the rounding, the digits and the cash of the other currency are those that count
            RUNS.promise(21, "put(5, " + words[0] + ", " + words[1] + ")\n"
                + "setCurrency(1, " + words[2] + ", 'n', 7)\n"
                + "setCurrency(3, " + words[3] + ", '" + words[4] + "', 100)\n"
                + "setRate(1, 3, 5) = false\n"
                + "change(1, 3, " + words[5] + ") = " + due + "\n");
        }
        RUNS.promise(21, """
            put(0, 15, 1)
            setRate(0, 1, 0) = false
            change(0, 1, 0) = 0
            change(0, 1, 1000000000000) = 1500000000000
            change(0, 1, 1000000000001) = throws.IllegalArgumentException
            change(0, 1, -1) = throws.IllegalArgumentException
            change(0, 1, -9223372036854775808) = throws.IllegalArgumentException
            change(0, 1, 9223372036854775807) = throws.IllegalArgumentException
            change(2, 2, 5) = throws.IllegalArgumentException
            change(1, 0, -1) = throws.IllegalArgumentException
            change(1, 0, 5) = throws.NoSuchElementException
            change(4, 4, -1) = throws.IndexOutOfBoundsException
            change(0, 4, 5) = throws.IndexOutOfBoundsException
            change(-1, 0, 5) = throws.IndexOutOfBoundsException
            change(0, -1, 5) = throws.IndexOutOfBoundsException
            setCurrency(1, 1, 'h', 1) = 2
            change(0, 1, 100) = 15
            """);
    }

    private static void lost() {
        RUNS.promise(22, """
            put(0, 3, 0)
            put(1, 333, 3)
            setRate(0, 1, 0) = false
            lost(0, 1, 5) = throws.NoSuchElementException
            lost(1, 0, 5) = throws.NoSuchElementException
            setRate(1, 0, 1) = false
            lost(0, 1, 1000) = 1
            lost(1, 0, 1000) = 1
            lost(0, 1, 0) = 0
            lost(0, 1, 1000000000000) = 1000000000
            lost(0, 1, 1000000000001) = throws.IllegalArgumentException
            lost(0, 1, -1) = throws.IllegalArgumentException
            lost(2, 2, 1) = throws.IllegalArgumentException
            lost(2, 3, -1) = throws.IllegalArgumentException
            lost(2, 3, 1) = throws.NoSuchElementException
            lost(4, 4, -1) = throws.IndexOutOfBoundsException
            lost(0, 4, 1) = throws.IndexOutOfBoundsException
            lost(-1, 0, 1) = throws.IndexOutOfBoundsException
            setCurrency(0, 2, 'n', 1) = 2
            lost(0, 1, 1000) = 1
            lost(0, 1, 1001) = throws.ArithmeticException
            lost(1, 0, 1001) = throws.ArithmeticException
            lost(0, 1, 0) = 0
            setCurrency(0, 2, 'u', 1) = 2
            lost(0, 1, 1000) = 1
            lost(1, 0, 1000) = 1
            lost(1, 0, 1) = -2
            """);
        // more can come on the way than can be told at the start; and a missing rate back is told first
        RUNS.promise(22, """
            put(0, 1, -5)
            put(1, 1, 5)
            put(2, 1, -6)
            put(3, 999999999999999999, 17)
            setRate(0, 1, 0) = false
            setRate(1, 0, 1) = false
            lost(0, 1, 1000000000000) = 0
            setRate(0, 1, 2) = true
            lost(0, 1, 1000000000000) = throws.ArithmeticException
            lost(0, 1, 1) = -9
            setRate(0, 2, 2) = false
            lost(0, 2, 1000000000000) = throws.NoSuchElementException
            setRate(0, 1, 0) = true
            setRate(1, 0, 3) = true
            lost(0, 1, 1000000000000) = -999998999999999999
            setRate(1, 0, 2) = true
            lost(0, 1, 1000000000000) = throws.ArithmeticException
            """);
        // as much as can come on the way, and as small a rate as there can be back
        RUNS.promise(22, """
            put(0, 999999999999999999, 0)
            put(1, 999999999999999999, 36)
            setRate(0, 1, 0) = false
            setRate(1, 0, 1) = false
            lost(0, 1, 1) = 0
            setCurrency(0, 2, 'd', 1) = 2
            lost(0, 1, 1) = 1
            put(0, 800000000000000000, 0)
            put(1, 625000000000000000, 36)
            setRate(0, 1, 0) = true
            setRate(1, 0, 1) = true
            setCurrency(0, 2, 'l', 1) = 2
            lost(0, 1, 1) = 1
            setCurrency(0, 2, 'h', 1) = 2
            lost(0, 1, 1) = 0
            put(1, 625000000000000001, 36)
            setRate(1, 0, 1) = true
            setCurrency(0, 2, 'l', 1) = 2
            lost(0, 1, 1) = 0
            setCurrency(0, 0, 'l', 1) = 2
            setCurrency(1, 3, 'h', 1) = 2
            put(0, 8, -15)
            setRate(0, 1, 0) = true
            lost(0, 1, 0) = 0
            """);
    }
}
