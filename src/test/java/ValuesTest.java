/** Promises 1 to 18: a new house, and values. */
public final class ValuesTest {
    private static final String[] ROUNDINGS = {
        // of 2.5, -2.5, 3.5, -3.5, 2.4, -2.4, 2.6, -2.6, 2.0, -2.0
        "u 3 -3 4 -4 3 -3 3 -3 2 -2",
        "d 2 -2 3 -3 2 -2 2 -2 2 -2",
        "c 3 -2 4 -3 3 -2 3 -2 2 -2",
        "f 2 -3 3 -4 2 -3 2 -3 2 -2",
        "h 3 -3 4 -4 2 -2 3 -3 2 -2",
        "l 2 -2 3 -3 2 -2 3 -3 2 -2",
        "e 2 -2 4 -4 2 -2 3 -3 2 -2",
        "n x x x x x x x x 2 -2"};
    private static final int[] ROUNDED = {25, -25, 35, -35, 24, -24, 26, -26, 20, -20};

    private static final Runs RUNS = new Runs("ValuesTest");

    public static void main(String[] args) {
        newObject();
        put();
        type();
        fault();
        read();
        wipe();
        unscaled();
        scale();
        precision();
        join();
        turn();
        move();
        setScale();
        round();
        divide();
        divideExactly();
        compare();
        isEqual();
        RUNS.end(1, 18);
    }

    private static void newObject() {
        StringBuilder shelves = new StringBuilder();
        for (int i = 0; i < 12; i++) {
            shelves.append("unscaled(" + i + ") = throws.NoSuchElementException\n");
        }
        RUNS.promise(1, shelves.toString());
        RUNS.promise(1, """
            fault() = 0
            wipe() = 0
            change(0, 1, 5) = throws.NoSuchElementException
            change(3, 2, 5) = throws.NoSuchElementException
            tax(0, 9999) = 0
            tax(5, 0) = 0
            net(0) = throws.IndexOutOfBoundsException
            isBooked(0) = throws.IndexOutOfBoundsException
            share(1, 'l') = throws.UnsupportedOperationException
            part(0) = throws.NoSuchElementException
            instalment(0, 'i') = throws.NoSuchElementException
            side(0, 99, true) = 0
            side(0, 99, false) = 0
            nextAccount(-1) = throws.NoSuchElementException
            undo() = throws.NoSuchElementException
            isSound() = true
            open(0, 3, true) = 0
            line(0, 5, 999999, 1000) = 0
            net(0) = 999999
            shut(0) = 0
            """);
        // one house leaves another one as it is
        Tillhouse other = new Tillhouse();
        other.put(0, 5, 0);
        other.type('5');
        other.setTax(0, 0, 1);
        other.open(0, 0, true);
        other.post(0, 1, 2, 3);
        RUNS.promise(1, """
            unscaled(0) = throws.NoSuchElementException
            wipe() = 0
            tax(0, 0) = 0
            net(0) = throws.IndexOutOfBoundsException
            undo() = throws.NoSuchElementException
            """);
    }

    private static void put() {
        RUNS.promise(2, """
            put(0, 25, 1) = 2
            unscaled(0) = 25
            scale(0) = 1
            put(0, -7, 3) = 1
            unscaled(0) = -7
            scale(0) = 3
            put(0, 0, 36) = 1
            scale(0) = 36
            put(11, 999999999999999999, 36) = 18
            unscaled(11) = 999999999999999999
            put(11, -999999999999999999, -18) = 18
            unscaled(11) = -999999999999999999
            scale(11) = -18
            put(5, 99999999999999999, 0) = 17
            put(5, 100000000000000000, 0) = 18
            put(5, 9, 0) = 1
            put(5, 10, 0) = 2
            put(5, 1000000000000000000, 0) = throws.IllegalArgumentException
            put(5, -1000000000000000000, 0) = throws.IllegalArgumentException
            put(5, 9223372036854775807, 0) = throws.IllegalArgumentException
            put(5, -9223372036854775808, 0) = throws.IllegalArgumentException
            put(5, 1, 37) = throws.IllegalArgumentException
            put(5, 1, -19) = throws.IllegalArgumentException
            put(5, 1, -2147483648) = throws.IllegalArgumentException
            unscaled(5) = 10
            put(12, 1, 0) = throws.IndexOutOfBoundsException
            put(-1, 1, 0) = throws.IndexOutOfBoundsException
            put(2147483647, 1, 99) = throws.IndexOutOfBoundsException
            """);
    }

    private static void type() {
        RUNS.promise(3, """
            type('1') = 1
            type(0) = 2
            type(65535) = 3
            wipe() = 3
            type('2') = 1
            22 times type('0')
            type('7') = 24
            type('7') = throws.IllegalStateException
            fault() = -1
            wipe() = 24
            type('x') = 1
            """);
    }

    private static void fault() {
        String[] texts = {
            "1 -1", "0 -1", "007 -1", "1. -1", ".5 -1", "1.5 -1", "+1 -1", "-1 -1", "-.5 -1", "+1.e5 -1", "1e5 -1",
            "1E5 -1", "1e+5 -1", "1e-05 -1", "1e-005 -1", "1e999 -1", ".0e+000 -1", "9999999999e-999 -1",
            "+ 1", "- 1", ". 1", "-. 2", "1e 2", "1E 2", "1.5e 4", "1e+ 3", "1e- 3", "-1.e- 5",
            "x 0", "e 0", "e5 0", "+- 1", "++1 1", "+e 1", ".. 1", ".e5 1", "-.e 2", "1.2.3 3", "1..2 2", "1+ 1",
            "1-2 1", "1e5.0 3", "1ee 2", "1e5e 3", "1e+-5 3", "1e1234 5", "1e+1234 6", "1e0001 5", "1x 1", "1/ 1",
            "1: 1", "1d 1", "0x1 1", "1,5 1", "x1e 0", "12345678901234567890123e 24", "12345678901234567890e-.1 22"};
        for (String text : texts) {
            String[] words = text.split(" ");
            RUNS.promise(4, "text \"" + words[0] + "\"\nfault() = " + words[1] + "\nfault() = " + words[1] + "\n");
        }
        RUNS.promise(4, """
            fault() = 0
            type('1') = 1
            type(0) = 2
            fault() = 1
            wipe() = 2
            type(1632) = 1
            fault() = 0
            wipe() = 1
            type(65297) = 1
            fault() = 0
            wipe() = 1
            type(' ') = 1
            fault() = 0
            """.replace("' '", "32"));
    }

    private static void read() {
        String[] texts = {
            // the text, the unscaled number, the scale
            "1 1 0", "-1.50e2 -150 0", "+12.5 125 1", ".5 5 1", "5. 5 0", "1.e3 1 -3", "-0 0 0", "-0.00e5 0 -3",
            "0.00 0 2", "1E-36 1 36", "1e18 1 -18", "0.1e19 1 -18", "1.5e-035 15 36", "0e18 0 -18",
            "000000000000000000000001 1 0", "999999999999999999 999999999999999999 0",
            "-999999999999999999e-36 -999999999999999999 36", "0.0000000000000000000012 12 22",
            "000123.4500e+001 1234500 3"};
        for (String text : texts) {
            String[] words = text.split(" ");
            RUNS.promise(5, "text \"" + words[0] + "\"\nread(3) = " + words[2] + "\nunscaled(3) = " + words[1]
                + "\nscale(3) = " + words[2] + "\nwipe() = 0\n");
        }
        RUNS.promise(5, """
            put(0, 7, 1)
            read(0) = throws.IllegalArgumentException
            text "1e"
            read(0) = throws.IllegalArgumentException
            read(12) = throws.IndexOutOfBoundsException
            read(-1) = throws.IndexOutOfBoundsException
            text "1x"
            read(0) = throws.IllegalArgumentException
            wipe() = 2
            text "1000000000000000000"
            read(0) = throws.ArithmeticException
            wipe() = 19
            text "0.1000000000000000000"
            read(0) = throws.ArithmeticException
            text "123456789012345678901234"
            read(0) = throws.ArithmeticException
            text "1e19"
            read(0) = throws.ArithmeticException
            text "0e19"
            read(0) = throws.ArithmeticException
            text "1e-37"
            read(0) = throws.ArithmeticException
            text "0.0e-036"
            read(0) = throws.ArithmeticException
            text "1e999"
            read(0) = throws.ArithmeticException
            text "1e-999"
            read(0) = throws.ArithmeticException
            read(12) = throws.IndexOutOfBoundsException
            wipe() = 6
            unscaled(0) = 7
            scale(0) = 1
            """);
    }

    private static void wipe() {
        RUNS.promise(6, """
            wipe() = 0
            type('1') = 1
            type('x') = 2
            wipe() = 2
            wipe() = 0
            fault() = 0
            type('5') = 1
            read(0) = 0
            unscaled(0) = 5
            """);
    }

    private static void unscaled() {
        RUNS.promise(7, emptyShelf("unscaled"));
        RUNS.promise(7, "put(3, -12, 5)\nunscaled(3) = -12\nput(3, 0, 5)\nunscaled(3) = 0\n");
    }

    private static void scale() {
        RUNS.promise(8, emptyShelf("scale"));
        RUNS.promise(8, "put(3, -12, 5)\nscale(3) = 5\nput(3, 0, -18)\nscale(3) = -18\n");
    }

    private static void precision() {
        RUNS.promise(9, emptyShelf("precision"));
        RUNS.promise(9, """
            put(3, -12, 5)
            precision(3) = -2
            put(3, 120, 5)
            precision(3) = 3
            put(3, 0, 5)
            precision(3) = 0
            put(3, 999999999999999999, 5)
            precision(3) = 18
            put(3, -100000000000000000, 5)
            precision(3) = -18
            put(3, -1, 5)
            precision(3) = -1
            """);
    }

    private static String emptyShelf(String name) {
        return """
            put(0, 1, 0)
            NAME(1) = throws.NoSuchElementException
            NAME(11) = throws.NoSuchElementException
            NAME(12) = throws.IndexOutOfBoundsException
            NAME(-1) = throws.IndexOutOfBoundsException
            NAME(-2147483648) = throws.IndexOutOfBoundsException
            """.replace("NAME", name);
    }

    private static void join() {
        joins("'+' 25 1 125 2 375 2", "'+' 1 0 -1 0 0 0", "'+' 0 5 0 -3 0 5", "'-' 25 1 125 2 125 2",
            "'-' 1 -2 1 0 99 0", "'+' 1 -17 -1 0 99999999999999999 0", "'+' 1 -18 -1 0 999999999999999999 0",
            "'-' -1 -18 -1 0 -999999999999999999 0", "'+' 1 18 0 36 1000000000000000000 x", "'+' 0 -18 1 36 1 36",
            "'+' 1 0 1 36 0 x", "'+' 999999999999999999 0 1 0 0 x", "'-' -999999999999999999 0 1 0 0 x",
            "'+' 2 -18 -1 0 0 x", "'+' 1 -18 0 0 0 x", "'+' -3 -18 0 0 0 x", "'+' 1 -18 1 36 0 x",
            "'-' 999999999999999999 0 999999999999999999 0 0 0", "'+' 999999999999999999 17 1 36 0 x");
        joins("'*' 25 1 -4 2 -100 3", "'*' 0 36 5 -18 0 18", "'*' 999999999 0 1000000000 0 999999999000000000 0",
            "'*' 1000000000 0 1000000000 0 0 x", "'*' -1000000000 0 1000000000 0 0 x", "'*' 1 18 1 18 1 36",
            "'*' 1 18 1 19 0 x", "'*' 0 18 0 19 0 x", "'*' 1 -9 1 -9 1 -18", "'*' 1 -9 1 -10 0 x",
            "'*' 999999999999999999 0 999999999999999999 0 0 x", "'*' 999999999999999999 0 -1 0 -999999999999999999 0",
            "'*' 4294967296 0 4294967296 0 0 x", "'*' -3 0 -5 0 15 0");
        joins("'g' 25 1 3 0 3 0", "'g' 25 1 -3 0 25 1", "'g' 250 2 25 1 250 2", "'g' 25 1 250 2 25 1",
            "'l' 25 1 3 0 25 1", "'l' 25 1 -3 0 -3 0", "'l' 250 2 25 1 250 2", "'l' 25 1 250 2 25 1",
            "'g' 0 5 0 0 0 5", "'l' 0 -5 0 0 0 -5", "'g' 1 -18 999999999999999999 36 1 -18");
        RUNS.promise(10, """
            put(0, 1, 0)
            put(2, 9, 0)
            join(12, 0, '+', 2) = throws.IndexOutOfBoundsException
            join(0, 12, '+', 2) = throws.IndexOutOfBoundsException
            join(0, 0, '+', 12) = throws.IndexOutOfBoundsException
            join(-1, 0, 'x', 2) = throws.IndexOutOfBoundsException
            join(0, 0, 'x', -1) = throws.IndexOutOfBoundsException
            join(1, 1, 'x', 2) = throws.IllegalArgumentException
            join(0, 0, '/', 2) = throws.IllegalArgumentException
            join(0, 0, 'G', 2) = throws.IllegalArgumentException
            join(0, 1, '+', 2) = throws.NoSuchElementException
            join(1, 0, '*', 2) = throws.NoSuchElementException
            join(1, 0, 'g', 2) = throws.NoSuchElementException
            unscaled(2) = 9
            join(0, 2, '+', 0) = 0
            unscaled(0) = 10
            join(0, 0, '*', 1) = 0
            unscaled(1) = 100
            """);
    }

    private static void joins(String... cases) {
        for (String each : cases) {
            String[] words = each.split(" ");
            String puts = "put(0, " + words[1] + ", " + words[2] + ")\nput(1, " + words[3] + ", " + words[4] + ")\n";
            RUNS.promise(10, puts + came("join(0, 1, " + words[0] + ", 2)", 2, words[5], words[6], words[6]));
        }
    }

    /** The lines for a call that answers so, and what is on a shelf then; x for an ArithmeticException. */
    private static String came(String call, int shelf, String unscaled, String scale, String answer) {
        if (scale.equals("x") || unscaled.equals("x")) {
            return call + " = throws.ArithmeticException\nunscaled(" + shelf + ") = throws.NoSuchElementException\n";
        }
        return call + " = " + answer + "\nunscaled(" + shelf + ") = " + unscaled + "\nscale(" + shelf + ") = " + scale
            + "\n";
    }

    private static void turn() {
        String[] cases = {
            "'-' 25 1 -25 1", "'-' -25 36 25 36", "'-' 0 -18 0 -18", "'a' -25 1 25 1", "'a' 25 1 25 1", "'a' 0 3 0 3",
            "'a' -999999999999999999 0 999999999999999999 0", "'s' 2500 1 25 -1", "'s' -2500 5 -25 3", "'s' 0 36 0 0",
            "'s' 0 -18 0 0", "'s' 25 -18 25 -18", "'s' 250 -17 25 -18", "'s' 250 -18 0 x", "'s' 100 -17 0 x",
            "'s' 100000000000000000 36 1 19", "'s' 101 5 101 5", "'s' -10 0 -1 -1"};
        for (String each : cases) {
            String[] words = each.split(" ");
            RUNS.promise(11, "put(0, " + words[1] + ", " + words[2] + ")\n"
                + came("turn(0, " + words[0] + ", 1)", 1, words[3], words[4], words[4]));
        }
        RUNS.promise(11, """
            put(0, 5, 0)
            turn(12, '-', 0) = throws.IndexOutOfBoundsException
            turn(0, 'x', 12) = throws.IndexOutOfBoundsException
            turn(1, 'x', 0) = throws.IllegalArgumentException
            turn(0, '+', 0) = throws.IllegalArgumentException
            turn(1, '-', 0) = throws.NoSuchElementException
            turn(1, 's', 0) = throws.NoSuchElementException
            turn(0, '-', 0) = 0
            unscaled(0) = -5
            """);
    }

    private static void move() {
        String[] cases = {
            "25 1 3 25 4", "25 3 -1 25 2", "25 1 -1 25 0", "25 1 -2 250 0", "25 0 -3 25000 0", "-25 -2 1 -250 0",
            "25 -2 2 25 0", "25 -2 3 25 1", "1 0 -17 100000000000000000 0", "1 0 -18 0 x", "9 1 -18 900000000000000000 0",
            "10 1 -18 0 x", "0 -18 -20 0 0", "0 36 -20 0 16", "1 -18 -20 0 x", "1 -18 20 1 2", "1 16 20 1 36",
            "1 17 20 0 x", "0 17 20 0 x", "1 36 1 0 x", "1 -18 1 100000000000000000 0", "-9 -18 1 -900000000000000000 0",
            "10 -18 1 0 x", "999999999999999999 20 -20 999999999999999999 0", "999999999999999999 19 -20 0 x",
            "0 5 1 0 6", "0 -18 1 0 0"};
        for (String each : cases) {
            String[] words = each.split(" ");
            RUNS.promise(12, "put(0, " + words[0] + ", " + words[1] + ")\n"
                + came("move(0, " + words[2] + ", 1)", 1, words[3], words[4], words[4]));
        }
        RUNS.promise(12, """
            put(0, 5, 0)
            move(12, 1, 0) = throws.IndexOutOfBoundsException
            move(0, 0, -1) = throws.IndexOutOfBoundsException
            move(1, 0, 0) = throws.IllegalArgumentException
            move(0, 21, 0) = throws.IllegalArgumentException
            move(0, -21, 0) = throws.IllegalArgumentException
            move(0, -2147483648, 0) = throws.IllegalArgumentException
            move(1, 1, 0) = throws.NoSuchElementException
            unscaled(0) = 5
            move(0, 2, 0) = 2
            scale(0) = 2
            """);
    }

    private static void setScale() {
        for (String row : ROUNDINGS) {
            String[] words = row.split(" ");
            for (int i = 0; i < ROUNDED.length; i++) {
                RUNS.promise(13, "put(0, " + ROUNDED[i] + ", 1)\n"
                    + came("setScale(0, 0, '" + words[0] + "', 1)", 1, words[i + 1], "0", "1"));
            }
        }
        String[] cases = {
            // unscaled number, scale, wanted scale, rounding; what comes, its precision
            "25 1 3 'n' 2500 4", "0 5 36 'n' 0 1", "0 36 -18 'n' 0 1", "1 0 17 'n' 100000000000000000 18",
            "1 0 18 'n' x 0", "-1 -18 36 'd' x 0", "0 -18 36 'd' 0 1", "999999999999999999 0 -18 'h' 1 1",
            "499999999999999999 0 -18 'h' 0 1", "500000000000000000 0 -18 'h' 1 1", "500000000000000000 0 -18 'e' 0 1",
            "500000000000000000 0 -18 'l' 0 1", "500000000000000001 0 -18 'l' 1 1", "999999999999999999 1 -18 'h' 0 1",
            "999999999999999999 1 -18 'u' 1 1", "999999999999999999 36 -18 'c' 1 1", "-999999999999999999 36 -18 'c' 0 1",
            "-1 36 -18 'f' -1 1", "1 36 -18 'f' 0 1", "1 36 -18 'n' x 0", "-1 36 -18 'u' -1 1", "995 1 0 'h' 100 3",
            "999 1 0 'h' 100 3", "999999999999999999 1 0 'u' 100000000000000000 18", "15 0 -1 'e' 2 1", "25 0 -1 'e' 2 1",
            "-15 0 -1 'e' -2 1", "5 0 -1 'e' 0 1", "100 2 0 'n' 1 1", "999999999999999999 0 0 'n' 999999999999999999 18"};
        for (String each : cases) {
            String[] words = each.split(" ");
            RUNS.promise(13, "put(0, " + words[0] + ", " + words[1] + ")\n"
                + came("setScale(0, " + words[2] + ", " + words[3] + ", 1)", 1, words[4], words[2], words[5]));
        }
        RUNS.promise(13, """
            put(0, 5, 0)
            setScale(12, 0, 'h', 0) = throws.IndexOutOfBoundsException
            setScale(0, 99, 'x', 12) = throws.IndexOutOfBoundsException
            setScale(1, 37, 'h', 0) = throws.IllegalArgumentException
            setScale(1, -19, 'h', 0) = throws.IllegalArgumentException
            setScale(1, 0, 'x', 0) = throws.IllegalArgumentException
            setScale(1, 0, 'H', 0) = throws.IllegalArgumentException
            setScale(0, 0, 0, 0) = throws.IllegalArgumentException
            setScale(1, 0, 'h', 0) = throws.NoSuchElementException
            setScale(0, -1, 'n', 0) = throws.ArithmeticException
            unscaled(0) = 5
            setScale(0, -1, 'l', 0) = 1
            unscaled(0) = 0
            """);
    }

    private static void round() {
        for (String row : ROUNDINGS) {
            String[] words = row.split(" ");
            for (int i = 0; i < ROUNDED.length; i++) {
                RUNS.promise(14, "put(0, " + ROUNDED[i] + ", 1)\n"
                    + came("round(0, 1, '" + words[0] + "', 1)", 1, words[i + 1], "0", "0"));
            }
        }
        String[] cases = {
            // unscaled number, scale, digits, rounding; what comes, its scale
            "12345 2 5 'n' 12345 2", "12345 2 18 'n' 12345 2", "12345 2 4 'h' 1235 1", "12345 2 4 'e' 1234 1",
            "12345 2 1 'h' 1 -2", "-12345 2 2 'f' -13 -1", "99999 2 3 'h' 100 -1", "99999 2 3 'd' 999 0",
            "-99999 0 1 'u' -1 -5", "0 7 1 'n' 0 7", "12000 0 2 'n' 12 -3", "12000 0 1 'n' 0 x",
            "999999999999999999 0 17 'h' 10000000000000000 -2", "999999999999999999 0 1 'd' 9 -17",
            "123456789012345678 -18 18 'h' 123456789012345678 -18", "123456789012345678 -18 17 'h' 0 x",
            "123456789012345678 -17 17 'h' 12345678901234568 -18", "99 -17 1 'u' 0 x", "99 -16 1 'u' 1 -18",
            "95 36 1 'h' 1 34", "94 36 1 'h' 9 35", "100000000000000000 0 1 'n' 1 -17"};
        for (String each : cases) {
            String[] words = each.split(" ");
            RUNS.promise(14, "put(0, " + words[0] + ", " + words[1] + ")\n"
                + came("round(0, " + words[2] + ", " + words[3] + ", 1)", 1, words[4], words[5], words[5]));
        }
        RUNS.promise(14, """
            put(0, 55, 0)
            round(12, 1, 'h', 0) = throws.IndexOutOfBoundsException
            round(0, 0, 'x', 12) = throws.IndexOutOfBoundsException
            round(1, 0, 'h', 0) = throws.IllegalArgumentException
            round(0, 19, 'h', 0) = throws.IllegalArgumentException
            round(0, -1, 'h', 0) = throws.IllegalArgumentException
            round(1, 1, 'x', 0) = throws.IllegalArgumentException
            round(1, 1, 'h', 0) = throws.NoSuchElementException
            round(0, 1, 'n', 0) = throws.ArithmeticException
            unscaled(0) = 55
            round(0, 1, 'e', 0) = -1
            unscaled(0) = 6
            """);
    }

    private static void divide() {
        for (String row : ROUNDINGS) {
            String[] words = row.split(" ");
            for (int i = 0; i < ROUNDED.length; i++) {
                String due = words[i + 1];
                RUNS.promise(15, "put(0, " + ROUNDED[i] + ", 1)\nput(1, 1, 0)\n"
                    + came("divide(0, 1, 0, '" + words[0] + "', 2)", 2, due, "0", "1"));
                RUNS.promise(15, "put(0, " + -ROUNDED[i] + ", 1)\nput(1, -1, 0)\n"
                    + came("divide(0, 1, 0, '" + words[0] + "', 2)", 2, due, "0", "1"));
            }
        }
        String[] cases = {
            // two values, wanted scale, rounding; what comes, its precision
            "1 0 3 0 4 'c' 3334 4", "1 0 3 0 4 'f' 3333 4", "-1 0 3 0 4 'c' -3333 4", "1 0 -3 0 4 'f' -3334 4",
            "2 0 3 0 17 'h' 66666666666666667 17", "2 0 3 0 18 'h' 666666666666666667 18", "2 0 3 0 19 'h' x 0",
            "1 0 8 0 3 'n' 125 3", "1 0 8 0 2 'n' x 0", "1 0 8 0 2 'e' 12 2", "3 0 8 0 2 'e' 38 2", "0 5 7 3 36 'n' 0 1",
            "0 5 7 3 -18 'n' 0 1", "0 0 0 0 0 'h' x 0", "1 0 0 5 0 'd' x 0",
            "999999999999999999 0 999999999999999998 0 17 'd' 100000000000000000 18",
            "999999999999999998 0 999999999999999999 0 18 'u' 999999999999999999 18",
            "999999999999999998 0 999999999999999999 0 18 'd' 999999999999999998 18",
            "1 0 999999999999999999 0 36 'd' 1000000000000000001 x", "1 0 999999999999999999 0 35 'd' 100000000000000000 18",
            "1 36 999999999999999999 -18 -18 'u' 1 1", "1 36 999999999999999999 -18 -18 'd' 0 1",
            "1 36 999999999999999999 -18 -18 'h' 0 1", "-1 36 1 -18 -18 'f' -1 1", "1 36 1 -18 -18 'n' x 0",
            "999999999999999999 0 1 0 -18 'h' 1 1", "500000000000000000 0 1 0 -18 'h' 1 1",
            "500000000000000000 0 1 0 -18 'l' 0 1", "999999999999999999 0 2 0 -18 'h' 0 1",
            "999999999999999999 0 2 0 -18 'u' 1 1", "999999999999999999 0 19 -17 0 'u' 1 1",
            "95 0 10 0 0 'e' 10 2", "105 0 10 0 0 'e' 10 2", "1 -18 1 36 36 'd' x 0", "1 0 1 0 17 'n' 100000000000000000 18",
            "1 0 1 0 18 'n' x 0", "15 0 1 0 -1 'h' 2 1", "14 0 1 0 -1 'h' 1 1", "15 0 1 0 -1 'l' 1 1"};
        for (String each : cases) {
            String[] words = each.split(" ");
            String scale = words[7].equals("x") ? "x" : words[4];
            RUNS.promise(15, "put(0, " + words[0] + ", " + words[1] + ")\nput(1, " + words[2] + ", " + words[3] + ")\n"
                + came("divide(0, 1, " + words[4] + ", " + words[5] + ", 2)", 2, words[6], scale, words[7]));
        }
        RUNS.promise(15, """
            put(0, 5, 0)
            divide(12, 0, 0, 'h', 0) = throws.IndexOutOfBoundsException
            divide(0, 12, 0, 'h', 0) = throws.IndexOutOfBoundsException
            divide(0, 0, 99, 'x', 12) = throws.IndexOutOfBoundsException
            divide(1, 0, 37, 'h', 0) = throws.IllegalArgumentException
            divide(1, 0, -19, 'h', 0) = throws.IllegalArgumentException
            divide(1, 0, 0, 'x', 0) = throws.IllegalArgumentException
            divide(1, 0, 0, 'h', 0) = throws.NoSuchElementException
            divide(0, 1, 0, 'h', 0) = throws.NoSuchElementException
            put(2, 0, 0)
            divide(0, 2, 0, 'h', 0) = throws.ArithmeticException
            divide(1, 2, 0, 'h', 0) = throws.NoSuchElementException
            unscaled(0) = 5
            divide(0, 0, 2, 'n', 0) = 3
            unscaled(0) = 100
            """);
    }

    private static void divideExactly() {
        String[] cases = {
            "1 0 8 0 125 3", "1 0 3 0 0 x", "6 0 3 0 2 0", "600 2 3 0 200 2", "6 2 3 5 2 -3", "1 2 8 1 125 4",
            "0 5 7 3 0 2", "0 36 -7 -18 0 x", "0 -18 7 3 0 x", "0 0 0 0 0 x", "1 0 0 0 0 x", "-1 0 4 0 -25 2",
            "-1 0 -4 0 25 2", "1 -18 2 36 0 x", "1 -18 1 0 1 -18", "1 -18 1 1 0 x", "1 -18 4 2 25 -18",
            "1 -18 4 3 0 x", "1 18 1 -18 1 36", "1 18 2 -18 0 x", "1 0 262144 0 3814697265625 18",
            "1 0 137438953472 0 0 x", "1 0 33554432 0 298023223876953125 25", "1 0 67108864 0 0 x",
            "1 0 152587890625 0 65536 16", "1 0 762939453125 0 131072 17", "999999999999999999 0 1 0 999999999999999999 0",
            "999999999999999999 0 2 0 0 x", "1 0 100000000000000000 0 1 17", "7 0 700 0 1 2", "21 1 14 0 15 2",
            "1 0 576460752303423488 0 0 x"};
        for (String each : cases) {
            String[] words = each.split(" ");
            RUNS.promise(16, "put(0, " + words[0] + ", " + words[1] + ")\nput(1, " + words[2] + ", " + words[3] + ")\n"
                + came("divideExactly(0, 1, 2)", 2, words[4], words[5], words[5]));
        }
        RUNS.promise(16, """
            put(0, 5, 0)
            divideExactly(12, 0, 0) = throws.IndexOutOfBoundsException
            divideExactly(0, -1, 0) = throws.IndexOutOfBoundsException
            divideExactly(1, 1, 12) = throws.IndexOutOfBoundsException
            divideExactly(1, 0, 0) = throws.NoSuchElementException
            divideExactly(0, 1, 0) = throws.NoSuchElementException
            put(2, 0, 0)
            divideExactly(1, 2, 0) = throws.NoSuchElementException
            divideExactly(0, 2, 0) = throws.ArithmeticException
            put(3, 7, 0)
            divideExactly(0, 3, 0) = throws.ArithmeticException
            unscaled(0) = 5
            divideExactly(0, 0, 0) = 0
            unscaled(0) = 1
            """);
    }

    private static void compare() {
        String[] cases = {
            "25 1 250 2 0", "25 1 251 2 -1", "25 1 249 2 1", "-25 1 -251 2 1", "-25 1 -249 2 -1", "1 0 -1 0 1",
            "-1 0 1 0 -1", "0 0 0 36 0", "0 -18 1 36 -1", "0 -18 -1 36 1", "1 36 0 0 1", "1 -18 999999999999999999 36 1",
            "999999999999999999 36 1 -18 -1", "1 18 1 18 0", "1 -18 100000000000000000 -1 0", "-1 -18 -100000000000000000 -1 0",
            "999999999999999999 0 1 -18 -1", "-999999999999999999 0 -1 -18 1", "100000000000000001 17 1 0 1",
            "2 0 10 0 -1", "9 0 10 0 -1", "10 0 9 0 1"};
        for (String each : cases) {
            String[] words = each.split(" ");
            RUNS.promise(17, "put(0, " + words[0] + ", " + words[1] + ")\nput(1, " + words[2] + ", " + words[3]
                + ")\ncompare(0, 1) = " + words[4] + "\ncompare(0, 0) = 0\n");
        }
        RUNS.promise(17, pairOfShelves("compare"));
    }

    private static void isEqual() {
        RUNS.promise(18, """
            put(0, 25, 1)
            put(1, 250, 2)
            put(2, 25, 1)
            put(3, 25, 2)
            put(4, -25, 1)
            isEqual(0, 0) = true
            isEqual(0, 1) = false
            isEqual(0, 2) = true
            isEqual(0, 3) = false
            isEqual(0, 4) = false
            put(5, 0, 0)
            put(6, 0, 1)
            isEqual(5, 6) = false
            """);
        RUNS.promise(18, pairOfShelves("isEqual"));
    }

    private static String pairOfShelves(String name) {
        return """
            put(0, 1, 0)
            NAME(12, 1) = throws.IndexOutOfBoundsException
            NAME(1, 12) = throws.IndexOutOfBoundsException
            NAME(-1, 0) = throws.IndexOutOfBoundsException
            NAME(0, -1) = throws.IndexOutOfBoundsException
            NAME(0, 1) = throws.NoSuchElementException
            NAME(1, 0) = throws.NoSuchElementException
            NAME(1, 1) = throws.NoSuchElementException
            """.replace("NAME", name);
    }
}
