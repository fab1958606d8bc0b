/** Promises 23 to 31: goods and invoices. */
public final class InvoicesTest {
    private static final Runs RUNS = new Runs("InvoicesTest");

    /** Two lines of 449.55 at 19 % and 1.25 at 7 %, on invoice 0 line by line and on invoice 1 as a whole. */
    private static final String TWO_INVOICES = """
        setTax(0, 0, 1900) = 1
        setTax(1, 0, 700) = 1
        setDiscount(0, 1500, 100) = 1
        open(10, 2, true) = 0
        open(10, 2, false) = 1
        line(0, 0, 1500, 333) = 0
        line(0, 1, 250, 5) = 1
        line(1, 0, 1500, 333) = 0
        line(1, 1, 250, 5) = 1
        """;

    public static void main(String[] args) {
        setTax();
        tax();
        setDiscount();
        open();
        line();
        netOfLine();
        net();
        taxOf();
        cash();
        RUNS.end(23, 31);
    }

    private static void setTax() {
        RUNS.promise(23, """
            setTax(0, 20, 2000) = 1
            setTax(0, 0, 1900) = 2
            setTax(0, 20, 2100) = 2
            setTax(0, 9999, 9999) = 3
            setTax(0, 9999, 0) = 3
            setTax(5, 10, 1) = 1
            setTax(6, -1, 1) = throws.IndexOutOfBoundsException
            setTax(-1, 0, 1) = throws.IndexOutOfBoundsException
            setTax(0, 10000, 1) = throws.IllegalArgumentException
            setTax(0, -1, 1) = throws.IllegalArgumentException
            setTax(0, 1, 10000) = throws.IllegalArgumentException
            setTax(0, 1, -1) = throws.IllegalArgumentException
            setTax(0, 1, 1) = 4
            """);
        StringBuilder many = new StringBuilder();
        for (int i = 1; i <= 250; i++) {
            many.append("setTax(3, " + (7 * i % 9999) + ", " + i + ") = " + i + "\n");
        }
        RUNS.promise(23, many + """
            tax(3, 6) = 0
            tax(3, 7) = 1
            tax(3, 700) = 100
            tax(3, 1749) = 249
            tax(3, 1750) = 250
            tax(3, 9999) = 250
            """);
    }

    private static void tax() {
        RUNS.promise(24, """
            tax(0, 0) = 0
            setTax(0, 20, 2000) = 1
            setTax(0, 10, 1900) = 2
            setTax(0, 30, 0) = 3
            tax(0, 9) = 0
            tax(0, 10) = 1900
            tax(0, 19) = 1900
            tax(0, 20) = 2000
            tax(0, 29) = 2000
            tax(0, 30) = 0
            tax(0, 9999) = 0
            tax(1, 20) = 0
            setTax(0, 10, 1800) = 3
            tax(0, 10) = 1800
            tax(0, 20) = 2000
            setTax(0, 0, 5) = 4
            tax(0, 0) = 5
            tax(6, -1) = throws.IndexOutOfBoundsException
            tax(-1, 0) = throws.IndexOutOfBoundsException
            tax(5, -1) = throws.IllegalArgumentException
            tax(5, 10000) = throws.IllegalArgumentException
            tax(5, 9999) = 0
            """);
    }

    private static void setDiscount() {
        RUNS.promise(25, """
            setDiscount(0, 1500, 100) = 1
            setDiscount(0, 1500, 200) = 1
            setDiscount(0, 1000, 999) = 2
            setDiscount(0, 999999, 0) = 3
            setDiscount(0, 1, 500) = 4
            setDiscount(5, 1, 500) = 1
            setDiscount(6, 0, 1) = throws.IndexOutOfBoundsException
            setDiscount(-1, 1, 1) = throws.IndexOutOfBoundsException
            setDiscount(0, 0, 1) = throws.IllegalArgumentException
            setDiscount(0, 1000000, 1) = throws.IllegalArgumentException
            setDiscount(0, 2, 1000) = throws.IllegalArgumentException
            setDiscount(0, 2, -1) = throws.IllegalArgumentException
            setDiscount(0, 2, 1) = 5
            """);
        RUNS.promise(25, """
            setDiscount(0, 1500, 200) = 1
            setDiscount(0, 2000, 100) = 2
            setDiscount(0, 1000, 900) = 3
            setDiscount(0, 1500, 500) = 3
            open(0, 0, true) = 0
            line(0, 0, 999, 1000) = 0
            line(0, 0, 1000, 1000) = 1
            line(0, 0, 1499, 1000) = 2
            line(0, 0, 1500, 1000) = 3
            line(0, 0, 1999, 1000) = 4
            line(0, 0, 2000, 1000) = 5
            line(0, 0, 999999, 1000) = 6
            line(0, 1, 1500, 1000) = 7
            netOfLine(0, 0) = 999
            netOfLine(0, 1) = 100
            netOfLine(0, 2) = 150
            netOfLine(0, 3) = 750
            netOfLine(0, 4) = 1000
            netOfLine(0, 5) = 1800
            netOfLine(0, 6) = 899999
            netOfLine(0, 7) = 1500
            """);
    }

    private static void open() {
        RUNS.promise(26, """
            open(0, 0, true) = 0
            open(9999, 3, false) = 1
            open(10000, 4, true) = throws.IndexOutOfBoundsException
            open(0, -1, true) = throws.IndexOutOfBoundsException
            open(10000, 0, true) = throws.IllegalArgumentException
            open(-1, 0, true) = throws.IllegalArgumentException
            open(0, 0, false) = 2
            16 times open(5, 1, true)
            open(5, 1, true) = 19
            open(5, 1, true) = throws.IllegalStateException
            open(-1, 1, true) = throws.IllegalArgumentException
            open(5, 4, true) = throws.IndexOutOfBoundsException
            net(19) = 0
            net(20) = throws.IndexOutOfBoundsException
            """);
        // the day and the currency of the invoice, and how it goes
        RUNS.promise(26, """
            setTax(0, 10, 1000) = 1
            setCurrency(1, 2, 'd', 1) = 2
            open(9, 0, true) = 0
            open(10, 1, true) = 1
            open(10, 0, false) = 2
            line(0, 0, 500, 99) = 0
            line(1, 0, 500, 99) = 0
            line(2, 0, 500, 11) = 0
            line(2, 0, 500, 11) = 1
            taxOf(0) = 0
            net(0) = 50
            taxOf(1) = 4
            net(1) = 49
            net(2) = 11
            taxOf(2) = 1
            """);
    }

    private static void line() {
        RUNS.promise(27, """
            line(0, 0, 1, 0) = throws.IndexOutOfBoundsException
            open(10, 0, true) = 0
            line(0, 0, 1, 0) = 0
            line(0, 5, 999999, 9999999) = 1
            line(0, 6, 0, -1) = throws.IndexOutOfBoundsException
            line(0, -1, 1, 0) = throws.IndexOutOfBoundsException
            line(1, 0, 1, 0) = throws.IndexOutOfBoundsException
            line(-1, 0, 1, 0) = throws.IndexOutOfBoundsException
            line(0, 0, 0, 0) = throws.IllegalArgumentException
            line(0, 0, 1000000, 0) = throws.IllegalArgumentException
            line(0, 0, 1, -1) = throws.IllegalArgumentException
            line(0, 0, 1, 10000000) = throws.IllegalArgumentException
            9 times line(0, 1, 1000, 1)
            line(0, 1, 1000, 1) = 11
            line(0, 1, 1000, 1) = throws.IllegalStateException
            line(0, 1, 0, 1) = throws.IllegalArgumentException
            netOfLine(0, 0) = 0
            netOfLine(0, 1) = 9999989000
            net(0) = 9999989010
            netOfLine(0, 12) = throws.IndexOutOfBoundsException
            book(0) = 1
            line(0, 1, 1000, 1) = throws.UnsupportedOperationException
            line(0, 1, 0, 1) = throws.IllegalArgumentException
            open(10, 0, true) = 1
            line(1, 0, 1000, 5) = 0
            book(1) = 2
            line(1, 0, 1000, 5) = throws.UnsupportedOperationException
            line(1, 0, 1000, -5) = throws.IllegalArgumentException
            line(2, 0, 1000, 5) = throws.IndexOutOfBoundsException
            undo() = 1
            line(1, 0, 1000, 6) = 1
            net(1) = 11
            """);
        // a line keeps the tax and the discount as they were when it came
        RUNS.promise(27, """
            open(10, 0, true) = 0
            setTax(0, 10, 1000) = 1
            setDiscount(0, 1000, 100) = 1
            line(0, 0, 1000, 1000) = 0
            setTax(0, 10, 5000) = 1
            setDiscount(0, 1000, 500) = 1
            net(0) = 900
            taxOf(0) = 90
            line(0, 0, 1000, 1000) = 1
            net(0) = 1400
            taxOf(0) = 340
            """);
    }

    private static void netOfLine() {
        RUNS.promise(28, TWO_INVOICES + """
            netOfLine(0, 0) = 450
            netOfLine(0, 1) = 1
            netOfLine(1, 0) = 450
            netOfLine(1, 1) = 1
            setCurrency(2, 2, 'd', 1) = 2
            netOfLine(0, 0) = 449
            netOfLine(1, 1) = 1
            setCurrency(2, 2, 'u', 1) = 2
            netOfLine(0, 0) = 450
            netOfLine(1, 1) = 2
            setCurrency(2, 2, 'n', 1) = 2
            netOfLine(0, 0) = throws.ArithmeticException
            netOfLine(1, 1) = throws.ArithmeticException
            line(0, 2, 1000, 7) = 2
            netOfLine(0, 2) = 7
            netOfLine(0, 3) = throws.IndexOutOfBoundsException
            netOfLine(0, -1) = throws.IndexOutOfBoundsException
            netOfLine(2, 0) = throws.IndexOutOfBoundsException
            netOfLine(-1, 0) = throws.IndexOutOfBoundsException
            """);
        RUNS.promise(28, """
            open(0, 0, true) = 0
            line(0, 0, 500, 1) = 0
            line(0, 0, 500, 3) = 1
            line(0, 0, 499, 1) = 2
            setCurrency(0, 2, 'e', 1) = 2
            netOfLine(0, 0) = 0
            netOfLine(0, 1) = 2
            setCurrency(0, 2, 'l', 1) = 2
            netOfLine(0, 1) = 1
            setCurrency(0, 2, 'c', 1) = 2
            netOfLine(0, 2) = 1
            setCurrency(0, 2, 'f', 1) = 2
            netOfLine(0, 1) = 1
            """);
    }

    private static void net() {
        RUNS.promise(29, TWO_INVOICES + """
            net(0) = 451
            net(1) = 451
            setCurrency(2, 2, 'd', 1) = 2
            net(0) = 450
            net(1) = 450
            setCurrency(2, 2, 'u', 1) = 2
            net(0) = 452
            net(1) = 451
            setCurrency(2, 2, 'n', 1) = 2
            net(0) = throws.ArithmeticException
            net(1) = throws.ArithmeticException
            line(1, 2, 200, 1) = 2
            net(1) = 451
            net(2) = throws.IndexOutOfBoundsException
            net(-1) = throws.IndexOutOfBoundsException
            """);
        RUNS.promise(29, """
            open(0, 0, false) = 0
            net(0) = 0
            12 times line(0, 0, 999999, 9999999)
            net(0) = 119999868000
            open(0, 0, true) = 1
            net(1) = 0
            12 times line(1, 0, 500, 1)
            net(1) = 12
            open(0, 0, false) = 2
            12 times line(2, 0, 500, 1)
            net(2) = 6
            """);
    }

    private static void taxOf() {
        RUNS.promise(30, TWO_INVOICES + """
            taxOf(0) = 86
            taxOf(1) = 85
            setCurrency(2, 2, 'd', 1) = 2
            taxOf(0) = 85
            taxOf(1) = 85
            setCurrency(2, 2, 'u', 1) = 2
            taxOf(0) = 87
            taxOf(1) = 87
            setCurrency(2, 2, 'n', 1) = 2
            taxOf(0) = throws.ArithmeticException
            taxOf(1) = throws.ArithmeticException
            taxOf(2) = throws.IndexOutOfBoundsException
            taxOf(-1) = throws.IndexOutOfBoundsException
            """);
        // as a whole: one rounding for lines with like taxes, of whatever kinds; lines without tax round nothing
        RUNS.promise(30, """
            setTax(0, 0, 2000) = 1
            setTax(3, 5, 2000) = 1
            setTax(4, 5, 1000) = 1
            open(5, 0, false) = 0
            taxOf(0) = 0
            line(0, 0, 1000, 2) = 0
            line(0, 4, 1000, 4) = 1
            line(0, 3, 500, 1) = 2
            taxOf(0) = 1
            line(0, 4, 1000, 1) = 3
            taxOf(0) = 2
            setCurrency(0, 2, 'n', 1) = 2
            taxOf(0) = throws.ArithmeticException
            line(0, 4, 1000, 5) = 4
            taxOf(0) = throws.ArithmeticException
            line(0, 0, 500, 5) = 5
            taxOf(0) = 2
            line(0, 1, 500, 1) = 6
            taxOf(0) = 2
            net(0) = throws.ArithmeticException
            """);
        // line by line: the net is rounded ahead of its tax, also where the tax is 0
        RUNS.promise(30, """
            setTax(0, 0, 5000) = 1
            open(5, 0, true) = 0
            line(0, 0, 500, 1) = 0
            taxOf(0) = 1
            line(0, 0, 500, 1) = 1
            taxOf(0) = 2
            setCurrency(0, 2, 'l', 1) = 2
            taxOf(0) = 0
            setCurrency(0, 2, 'n', 1) = 2
            open(5, 0, true) = 1
            line(1, 0, 1000, 4) = 0
            taxOf(1) = 2
            line(1, 1, 500, 2) = 1
            taxOf(1) = 2
            line(1, 1, 500, 1) = 2
            taxOf(1) = throws.ArithmeticException
            """);
        RUNS.promise(30, """
            setTax(0, 0, 9999) = 1
            open(5, 0, false) = 0
            12 times line(0, 0, 999999, 9999999)
            taxOf(0) = 119987868013
            open(5, 0, true) = 1
            12 times line(1, 0, 999999, 9999999)
            taxOf(1) = 119987868012
            """);
    }

    private static void cash() {
        RUNS.promise(31, TWO_INVOICES + """
            cash(0) = 537
            cash(1) = 536
            setCurrency(2, 2, 'h', 5) = 2
            cash(0) = 535
            cash(1) = 535
            setCurrency(2, 2, 'h', 100) = 2
            cash(1) = 500
            setCurrency(2, 2, 'u', 100) = 2
            cash(1) = 500
            setCurrency(2, 2, 'n', 100) = 2
            cash(0) = throws.ArithmeticException
            cash(1) = throws.ArithmeticException
            line(1, 2, 200, 1) = 2
            net(1) = 451
            cash(1) = throws.ArithmeticException
            cash(2) = throws.IndexOutOfBoundsException
            cash(-1) = throws.IndexOutOfBoundsException
            """);
        String[] cases = {"100 50 100", "100 49 0", "100 150 200", "10 535 540", "10 534 530", "10 536 540", "4 2 4",
            "4 1 0", "5 2 0", "5 3 5", "1 7 7", "2 7 8", "100 0 0", "3 9 9", "3 10 9", "3 11 12"};
        for (String each : cases) {
            String[] words = each.split(" ");
            // nearest, whatever the rounding of the currency is
            for (char mode : "udcfhlen".toCharArray()) {
                RUNS.promise(31, "setCurrency(0, 0, '" + mode + "', " + words[0] + ")\nopen(0, 0, true) = 0\n"
                    + "line(0, 0, 1000, " + words[1] + ")\ncash(0) = " + words[2] + "\n");
            }
        }
        // the net would have to be rounded, the tax would not
        RUNS.promise(31, """
            open(0, 0, false) = 0
            line(0, 0, 500, 1) = 0
            setCurrency(0, 2, 'n', 1) = 2
            taxOf(0) = 0
            cash(0) = throws.ArithmeticException
            """);
    }
}
