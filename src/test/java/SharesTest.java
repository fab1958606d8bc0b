/** Promises 32 to 37: shares, interest, loans. */
public final class SharesTest {
    private static final Runs RUNS = new Runs("SharesTest");

    public static void main(String[] args) {
        weigh();
        share();
        part();
        interest();
        lend();
        instalment();
        RUNS.end(32, 37);
    }

    private static void weigh() {
        RUNS.promise(32, """
            weigh(0) = 1
            weigh(9999) = 2
            weigh(10000) = throws.IllegalArgumentException
            weigh(-1) = throws.IllegalArgumentException
            weigh(-2147483648) = throws.IllegalArgumentException
            9 times weigh(1)
            weigh(1) = 12
            weigh(1) = throws.IllegalStateException
            weigh(10000) = throws.IllegalArgumentException
            share(100, 'l') = 1
            weigh(1) = 1
            weigh(1) = 2
            """);
    }

    private static void share() {
        RUNS.promise(33, """
            share(5, 'l') = throws.UnsupportedOperationException
            weigh(0) = 1
            weigh(0) = 2
            share(5, 'l') = throws.UnsupportedOperationException
            share(-1, 'l') = throws.IllegalArgumentException
            share(1000000000001, 'l') = throws.IllegalArgumentException
            share(5, 'x') = throws.IllegalArgumentException
            share(5, 'L') = throws.IllegalArgumentException
            weigh(7) = 3
            share(5, 'x') = throws.IllegalArgumentException
            share(-5, 'l') = throws.IllegalArgumentException
            part(0) = throws.NoSuchElementException
            share(5, 'l') = 0
            part(2) = 5
            share(5, 'l') = throws.UnsupportedOperationException
            part(2) = 5
            weigh(1) = 1
            share(1000000000000, 'l') = 0
            part(0) = 1000000000000
            """);
        shares("1 1 0 1", 100, 'l', 1, "34 33 0 33");
        shares("1 1 0 1", 100, 'f', 1, "34 33 0 33");
        shares("1 1 0 1", 100, 'b', 1, "33 33 0 34");
        shares("1 1 0 1 0", 101, 'b', 2, "33 34 0 34 0");
        shares("0 1 1 1", 101, 'f', 2, "0 34 34 33");
        shares("0 1 1 1", 101, 'l', 2, "0 34 34 33");
        // 2.5, 4.17 and 3.33
        shares("3 5 4", 10, 'l', 1, "3 4 3");
        shares("3 5 4", 10, 'f', 1, "3 4 3");
        shares("3 5 4", 10, 'b', 1, "2 4 4");
        shares("5 3 4", 10, 'l', 1, "4 3 3");
        shares("5 3 4", 10, 'f', 1, "5 2 3");
        shares("5 3 4", 10, 'b', 1, "4 2 4");
        // a share that was not cut gets none
        shares("2 1 1", 2, 'l', 1, "1 1 0");
        shares("2 1 1", 2, 'f', 1, "1 1 0");
        shares("1 1 2", 2, 'b', 1, "0 1 1");
        // the greatest cut, not the greatest share or the greatest cut part of a weight
        shares("5 5 5 5 6", 4, 'l', 4, "1 1 1 0 1");
        shares("9999 1", 9999, 'l', 1, "9998 1");
        shares("1 9999", 1, 'l', 1, "0 1");
        shares("1 9999", 1, 'f', 1, "1 0");
        shares("7 11 13 17", 100, 'l', 2, "15 23 27 35");
        shares("7 11 13 17", 100, 'f', 2, "15 23 27 35");
        shares("7 11 13 17", 100, 'b', 2, "14 22 28 36");
        shares("1 1 1 1 1 1 1 1 1 1 1 1", 1000000000000L, 'l', 4,
            "83333333334 83333333334 83333333334 83333333334 83333333333 83333333333 "
            + "83333333333 83333333333 83333333333 83333333333 83333333333 83333333333");
        shares("9999 9999 9999 9999 9999 9999 9999 9999 9999 9999 9999 9998", 1000000000000L, 'b', 1,
            "83334027853 83334027853 83334027853 83334027853 83334027853 83334027853 83334027853 83334027853 83334027853 83334027853 83334027853 83325693617");
        shares("9999 9999 9999 9999 9999 9999 9999 9999 9999 9999 9999 9998", 1000000000000L, 'f', 1,
            "83334027854 83334027853 83334027853 83334027853 83334027853 83334027853 83334027853 83334027853 83334027853 83334027853 83334027853 83325693616");
        shares("3 4", 0, 'l', 0, "0 0");
    }

    private static void shares(String weights, long units, char rule, int left, String parts) {
        StringBuilder calls = new StringBuilder();
        for (String weight : weights.split(" ")) {
            calls.append("weigh(" + weight + ")\n");
        }
        calls.append("share(" + units + ", '" + rule + "') = " + left + "\n");
        int number = 0;
        for (String part : parts.split(" ")) {
            calls.append("part(" + number++ + ") = " + part + "\n");
        }
        calls.append("part(" + number + ") = throws.NoSuchElementException\nisSound() = true\n");
        RUNS.promise(33, calls.toString());
    }

    private static void part() {
        RUNS.promise(34, """
            part(0) = throws.NoSuchElementException
            weigh(1) = 1
            part(0) = throws.NoSuchElementException
            weigh(2) = 2
            share(9, 'l') = 0
            part(0) = 3
            part(1) = 6
            part(2) = throws.NoSuchElementException
            part(12) = throws.NoSuchElementException
            part(-1) = throws.NoSuchElementException
            part(2147483647) = throws.NoSuchElementException
            part(-2147483648) = throws.NoSuchElementException
            weigh(5) = 1
            part(0) = 3
            part(1) = 6
            share(4, 'f') = 0
            part(0) = 4
            part(1) = throws.NoSuchElementException
            """);
    }

    private static void interest() {
        String[] cases = {
            "100000 500 30 360 e 417", "100000 500 30 360 d 416", "100000 500 30 365 h 411", "100000 500 30 366 h 410",
            "100000 500 30 360 n x", "100000 600 30 360 n 500", "0 9999 9999 366 n 0", "5 0 9999 365 n 0",
            "5 9999 0 365 n 0", "1 5000 360 360 h 1", "1 5000 360 360 l 0", "1 5000 360 360 e 0", "3 5000 360 360 e 2",
            "1 5000 360 360 u 1", "1 5000 360 360 c 1", "1 5000 360 360 f 0", "1 1 1 366 u 1", "1 1 1 366 h 0",
            "1000000000000 9999 9999 360 n 27772222500000", "1000000000000 9999 9999 365 d 27391781095890",
            "1000000000000 9999 9999 365 u 27391781095891", "1000000000000 9999 9999 366 h 27316940163934",
            "999999999999 9999 9999 366 l 27316940163907"};
        for (String each : cases) {
            String[] words = each.split(" ");
            String due = words[5].equals("x") ? "throws.ArithmeticException" : words[5];
            RUNS.promise(35, "interest(" + words[0] + ", " + words[1] + ", " + words[2] + ", " + words[3] + ", '"
                + words[4] + "') = " + due + "\n");
        }
        RUNS.promise(35, """
            interest(-1, 1, 1, 360, 'h') = throws.IllegalArgumentException
            interest(1000000000001, 1, 1, 360, 'h') = throws.IllegalArgumentException
            interest(1, -1, 1, 360, 'h') = throws.IllegalArgumentException
            interest(1, 10000, 1, 360, 'h') = throws.IllegalArgumentException
            interest(1, 1, -1, 360, 'h') = throws.IllegalArgumentException
            interest(1, 1, 10000, 360, 'h') = throws.IllegalArgumentException
            interest(1, 1, 1, 361, 'h') = throws.IllegalArgumentException
            interest(1, 1, 1, 364, 'h') = throws.IllegalArgumentException
            interest(1, 1, 1, 0, 'h') = throws.IllegalArgumentException
            interest(1, 1, 1, 360, 'x') = throws.IllegalArgumentException
            interest(1, 1, 1, 360, 'n') = throws.ArithmeticException
            """);
    }

    private static void lend() {
        RUNS.promise(36, """
            lend(1000, 1200, 400) = 3
            lend(1000, 1200, 10) = throws.UnsupportedOperationException
            lend(1000, 1200, 9) = throws.UnsupportedOperationException
            lend(1000, 1200, 11) = throws.IllegalStateException
            lend(0, 1200, 11) = throws.IllegalArgumentException
            lend(1000000000001, 0, 1000000000000) = throws.IllegalArgumentException
            lend(1000, -1, 11) = throws.IllegalArgumentException
            lend(1000, 10000, 1) = throws.IllegalArgumentException
            lend(1000, 1200, 0) = throws.IllegalArgumentException
            lend(1000, 1200, 1000000000001) = throws.IllegalArgumentException
            instalment(0, 'i') = 10
            instalment(2, 's') = 218
            instalment(3, 's') = throws.NoSuchElementException
            lend(121, 0, 1) = throws.IllegalStateException
            lend(1000000000000, 0, 1) = throws.IllegalStateException
            instalment(0, 'i') = 10
            lend(120, 0, 1) = 120
            instalment(0, 'i') = 0
            instalment(119, 'o') = 0
            instalment(118, 'o') = 1
            isSound() = true
            lend(1, 9999, 1) = 1
            instalment(0, 's') = 1
            instalment(1, 's') = throws.NoSuchElementException
            isSound() = true
            """);
        // half an interest goes to the even unit; just paid off makes no further instalment
        RUNS.promise(36, """
            lend(150, 1200, 100) = 2
            instalment(0, 'i') = 2
            lend(50, 1200, 50) = 1
            instalment(0, 'i') = 0
            lend(50, 1200, 49) = 2
            lend(250, 1200, 252) = 1
            instalment(0, 's') = 252
            lend(250, 1200, 251) = 2
            instalment(1, 's') = 1
            lend(1000000000000, 9999, 83325000000) = throws.UnsupportedOperationException
            lend(1000000000000, 9999, 83325000001) = throws.IllegalStateException
            lend(1000000000000, 9999, 1000000000000) = 2
            instalment(0, 'i') = 83325000000
            instalment(0, 'o') = 83325000000
            instalment(1, 'i') = 6943055625
            """);
    }

    private static void instalment() {
        RUNS.promise(37, """
            instalment(0, 'i') = throws.NoSuchElementException
            instalment(0, 'x') = throws.IllegalArgumentException
            lend(1000, 1200, 400) = 3
            instalment(0, 'i') = 10
            instalment(0, 'p') = 390
            instalment(0, 'o') = 610
            instalment(0, 's') = 400
            instalment(1, 'i') = 6
            instalment(1, 'p') = 394
            instalment(1, 'o') = 216
            instalment(1, 's') = 400
            instalment(2, 'i') = 2
            instalment(2, 'p') = 216
            instalment(2, 'o') = 0
            instalment(2, 's') = 218
            instalment(3, 'o') = throws.NoSuchElementException
            instalment(-1, 'o') = throws.NoSuchElementException
            instalment(120, 'i') = throws.NoSuchElementException
            instalment(2147483647, 'i') = throws.NoSuchElementException
            instalment(3, 'I') = throws.IllegalArgumentException
            instalment(0, 0) = throws.IllegalArgumentException
            lend(5, 0, 5) = 1
            instalment(0, 'p') = 5
            instalment(1, 'p') = throws.NoSuchElementException
            """);
    }
}
