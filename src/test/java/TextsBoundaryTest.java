import java.util.function.Supplier;

/** Promises 32 to 34: a test for each sentence that names a boundary. */
final class TextsBoundaryTest extends Calls {
    // One of each order, with the signs of a number of two digits.
    private static final String[] ORDERS = {"w0>1*12/0", "s12@0", "h12", "t1", "f1", "p12"};

    public static void main(String[] args) throws Exception {
        Sentences.runAll(TextsBoundaryTest.class);
    }

    @Sentence(promise = 32, says = "Throws `IllegalStateException` if the input contains 60 characters")
    static void appendFull() {
        PotatoStamps x = new PotatoStamps();
        type(x, filler(58) + "p1");
        raises("a digit more", NOT_NOW, () -> x.append('2'));
        raises("a semicolon more", NOT_NOW, () -> x.append(';'));
        Check.due("characters", 60, x.account(13));
        Check.due("the text is as it was", 20, x.run());
        Check.due("hours", 20, x.account(0));
        Check.due("room again", 1, x.append('p'));
    }

    @Sentence(promise = 32, says = "The input has at most 60 characters.")
    static void appendSixty() {
        PotatoStamps x = new PotatoStamps();
        for (int n = 1; n <= 60; n++) {
            Check.due("characters then", n, x.append((char) (n % 2 == 0 ? 65535 : n)));
            Check.due("characters", n, x.account(13));
        }
        raises("a sixty-first", NOT_NOW, () -> x.append((char) 0));
        raises("a text without sense", OUT_OF_RANGE, () -> x.run());
        for (int n = 1; n <= 60; n++) {
            Check.due("characters then", n, x.append('p'));
        }
        raises("a sixty-first", NOT_NOW, () -> x.append('p'));
    }

    @Sentence(promise = 33, says = "Carries out the text in the input, which is empty afterwards, also if an exception is thrown.")
    static void runEmpties() {
        PotatoStamps x = new PotatoStamps();
        String[] texts = {"p1", "p1;", "x", "p0", "t3", "h7", "p1;f1"};
        for (String text : texts) {
            type(x, text);
            outcome(() -> x.run());
            Check.due("characters behind " + text, 0, x.account(13));
            Check.due("the first of the next", 1, x.append('p'));
            x.append('1');
            Check.due("the next text", 1, x.run());
        }
        Check.due("hours", 8, x.account(0));
    }

    @Sentence(promise = 33, says = "Returns the number of orders.")
    static void runNumberOfOrders() {
        for (int orders = 1; orders <= 20; orders++) {
            PotatoStamps x = new PotatoStamps();
            type(x, filler(3 * (orders - 1)) + "p2");
            Check.due("orders", orders, x.run());
            Check.due("each was carried out", orders + 1, x.account(0));
        }
    }

    @Sentence(promise = 33, says = "Items and numbers have one or two digits, all else is one digit.")
    static void runDigits() {
        PotatoStamps x = new PotatoStamps();
        for (int n = 0; n < 8; n++) {
            x.crayon(100);
        }
        for (int n = 0; n < 5; n++) {
            x.potato();
        }
        letterUntil(x, 18, 0);
        runText(x, "w4>5*1/7;w5>4*40/7;s00@4;s1@0;s09@1;s18@2;s19@3");
        Check.due("one word", 1, x.itemOf(18, 3));
        Check.due("40 words", 40, x.itemOf(19, 3));
        Check.floats("the last crayon", 0.1f * 100f - 0.05f * 1f - 0.05f * 40f, x.crayonOf(7));
        Check.due("the last potato", 4, x.itemOf(0, 6));
        runText(x, "h0;h01;h9;h18;h19;t1;t5;t4;p1;p01;p60");
        Check.due("hours", 62, x.account(0));
        Check.due("taken", 5, x.account(8));
        x.snacks(12);
        runText(x, "f1;f9");
        Check.due("fed", 10, x.account(11));
        dueError("w10>1*1/0", 2);
        dueError("w1>10*1/0", 4);
        dueError("w1>0*100/0", 7);
        dueError("w1>0*10/00", 9);
        dueError("s100@0", 3);
        dueError("s10@00", 5);
        dueError("h100", 3);
        dueError("t10", 2);
        dueError("f10", 2);
        dueError("p100", 3);
    }

    @Sentence(promise = 33, says = "\"w\", a child, \">\" another one, \"*\" a number of words and \"/\" a crayon writes a letter")
    static void runEachOrder() {
        PotatoStamps x = new PotatoStamps();
        x.crayon(20);
        x.crayon(120);
        x.potato();
        x.potato();
        x.snacks(9);
        runText(x, "w2>4*17/1");
        dueItem("letter", x, 0, new int[] {0, 2, 4, 17, 0, -1, -1});
        Check.floats("its crayon", 12.0f - 0.05f * 17f, x.crayonOf(1));
        Check.floats("not the other one", 2.0f, x.crayonOf(0));
        runText(x, "s0@1");
        dueItem("stamped", x, 0, new int[] {0, 2, 4, 17, 1, -1, 1});
        runText(x, "h0");
        dueItem("on the shelf", x, 0, new int[] {0, 2, 4, 17, 2, 0, 1});
        runText(x, "t4");
        dueItem("taken", x, 0, new int[] {0, 2, 4, 17, 3, -1, 1});
        runText(x, "p3");
        Check.floats("hungry", 4.5f, x.hunger());
        runText(x, "f2");
        Check.floats("fed", 0.5f, x.hunger());
    }

    @Sentence(promise = 33, says = "\"h\" and an item puts it into the row for its kind;")
    static void runShelves() {
        PotatoStamps x = new PotatoStamps();
        x.crayon(50);
        x.potato();
        x.parcel(0, 1, 1, 1, 1);
        x.letter(0, 1, 1, 0);
        runText(x, "s0@0;s1@0;h1;h0");
        Check.due("the parcel", 0, x.inHole(1, 1, 0));
        Check.due("the letter", 1, x.inHole(1, 0, 0));
        x.parcel(2, 1, 1, 1, 1);
        x.parcel(2, 1, 1, 1, 1);
        runRefuses("a full row", x, "s2@0;h2;s3@0;h3", 8, 1);
        x.undo();
        runText(x, "s2@0;h2");
        Check.due("the last one free", 2, x.inHole(1, 1, 1));
    }

    @Sentence(promise = 33, says = "A text is carried out if each order can be, one after the other;")
    static void runOneAfterTheOther() {
        PotatoStamps x = new PotatoStamps();
        x.crayon(20);
        x.potato();
        x.snacks(1);
        type(x, "w0>1*20/0;w1>0*20/0;s1@0;s0@0;h1;h0;p6;t1;f1");
        Check.due("each order stands on those ahead of it", 9, x.run());
        Check.due("the worse one is eaten", 4, x.itemOf(1, 4));
        Check.due("the other one is taken", 3, x.itemOf(0, 4));
        Check.floats("hunger", 2.0f, x.hunger());
        Check.floats("crayon", 0.0f, x.crayonOf(0));
        Check.due("one change", 4, x.account(14));
        x.undo();
        Check.due("undone at once", 0, x.account(2));
        Check.floats("undone at once", 2.0f, x.crayonOf(0));
    }

    @Sentence(promise = 33, says = "else nothing of it is, and the first order that cannot be decides what is thrown.")
    static void runNothingOfIt() {
        String[] carriedOut = {"p1;", "f1;", "s7@0;", "w0>1*1/0;", "h5;", "t4;", "s7@0;h7;t0;p9;f3;w0>1*3/0;"};
        for (String orders : carriedOut) {
            leavesAllOf(REFUSED, orders + "t3;h99");
            leavesAllOf(OUT_OF_RANGE, orders + "h99;t3");
            leavesAllOf(OUT_OF_RANGE, orders + "p0");
        }
        PotatoStamps x = emptied(sample());
        runRefuses("the first of two", x, "p1;t2;t3", 10, 2);
        runRefuses("the first of two", x, "f9;t3;w1>1*1/0", 11, 7);
        type(x, "h20;t3");
        raises("the first of two", OUT_OF_RANGE, () -> x.run());
        Check.due("the reason stays", "11 7", refusalOf(x));
    }

    /** A text of which nothing is carried out, behind which the office is as it was ahead of it. */
    private static void leavesAllOf(Class<?> due, String text) {
        Supplier<PotatoStamps> maker = () -> {
            PotatoStamps x = emptied(sample());
            runRefuses("ahead", x, "t3", 10, 3);
            return x;
        };
        leavesAll(due, maker, x -> runText(x, text));
    }

    @Sentence(promise = 33, says = "Throws `IllegalArgumentException` if the text has an error, or the method for an order would throw another exception than UnsupportedOperationException; if the text has no error, its position is -1")
    static void runWrongArguments() {
        String[] wrong = {"w6>1*1/0", "w9>1*1/0", "w0>6*1/0", "w0>9*1/0", "w7>7*1/0", "w0>1*0/0", "w0>1*00/0",
            "w0>1*41/0", "w0>1*99/0", "w0>1*1/1", "w0>1*1/9", "w1>1*41/0", "s1@0", "s20@0", "s99@0", "s0@1", "s0@9",
            "h1", "h20", "h99", "t6", "t9", "f0", "p0", "p00", "p61", "p99"};
        for (String text : wrong) {
            PotatoStamps x = new PotatoStamps();
            x.crayon(50);
            x.potato();
            x.letter(0, 1, 1, 0);
            x.snacks(9);
            runRaises(x, "p1x");
            runRaises(x, text);
            Check.due("no error in " + text, -1, x.errorPosition());
            Check.due("no reason for " + text, "none", refusalOf(x));
            runRaises(x, "p1;" + text);
            Check.due("no error in a later order " + text, -1, x.errorPosition());
            Check.due("nothing of it", 0, x.account(0));
            Check.due("changes", 4, x.account(14));
        }
        PotatoStamps x = new PotatoStamps();
        runRaises(x, "t3;x");
        Check.due("an error ahead of a refusal", "none", refusalOf(x));
        Check.due("its position", 3, x.errorPosition());
        runRaises(x, "p0;");
        Check.due("an error ahead of a wrong number", 3, x.errorPosition());
    }

    @Sentence(promise = 33, says = "Throws `UnsupportedOperationException` if it is refused for a reason of the method for an order; the reason is kept for refusal")
    static void runRefused() {
        PotatoStamps x = emptied(sample());
        runRefuses("same", x, "w3>3*1/0", 2, 3);
        runRefuses("same ahead of short", x, "w3>3*40/1", 2, 3);
        runRefuses("short", x, "w3>4*40/1", 3, 1);
        runRefuses("short in the end", x, "w3>4*40/0;w3>4*40/0;w3>4*40/0;w3>4*40/0;w3>4*40/0", 3, 0);
        runRefuses("stamped", x, "s5@0", 5, 1);
        runRefuses("on a shelf", x, "s3@0", 5, 2);
        runRefuses("taken", x, "s2@0", 5, 3);
        runRefuses("eaten", x, "s0@0", 5, 4);
        runRefuses("made", x, "h6", 7, 0);
        runRefuses("on a shelf", x, "h5;h5", 7, 2);
        runRefuses("empty", x, "t0", 10, 0);
        runRefuses("empty then", x, "t4;t4", 10, 4);
        runRefuses("snacks", x, "f8", 11, 7);
        runRefuses("snacks then", x, "f4;f4", 11, 3);
        PotatoStamps y = emptied(fullSample());
        runRefuses("full", y, "w3>3*40/1", 1, 20);
        runRefuses("weak", y, "s8@0;s9@0;s10@0;s11@0;s12@0;s13@0;s14@0;s15@0;s16@0", 6, 0);
        runRefuses("a full row", y, "s8@4;h8;s9@4;h9;s10@4;h10;s11@4;h11", 8, 0);
    }

    @Sentence(promise = 34, says = "or the length of the text if it ends too early.")
    static void errorAtTheEnd() {
        dueError("", 0);
        for (String order : ORDERS) {
            for (int length = 1; length < order.length(); length++) {
                String cut = order.substring(0, length);
                if (!cut.matches("[hp]\\d")) {
                    dueError(cut, length);
                    dueError("p1;" + cut, 3 + length);
                    dueError(filler(60 - length) + cut, 60);
                }
            }
            dueError(order + ";", order.length() + 1);
        }
        dueError("w0>1*1", 6);
        dueError("s1", 2);
        dueError(filler(60), 60);
    }

    @Sentence(promise = 34, says = "The error position of a text is the offset of the first character that cannot continue such a text")
    static void errorWithin() {
        String wrong = "x W;@*>/wshtfp:" + (char) 0 + (char) 127 + (char) 0x660 + (char) 65535
            + (char) (256 + 'w') + (char) (256 + '1') + (char) (512 + ';') + (char) (65280 + 't');
        for (String order : ORDERS) {
            for (int place = 0; place < order.length(); place++) {
                for (int n = 0; n < wrong.length(); n++) {
                    char sign = wrong.charAt(n);
                    if (mayStand(order, place, sign)) {
                        continue;
                    }
                    dueError(order.substring(0, place) + sign + order.substring(place + 1), place);
                    dueError("p60;" + order.substring(0, place) + sign, 4 + place);
                }
            }
        }
    }

    /** Whether the sign may stand there as well: an order's name, or what follows a number of one digit. */
    private static boolean mayStand(String order, int place, char sign) {
        if (place == 0) {
            return "wshtfp".indexOf(sign) >= 0;
        }
        boolean isDigit = Character.isDigit(order.charAt(place));
        boolean isSecond = isDigit && Character.isDigit(order.charAt(place - 1));
        if (!isDigit) {
            return order.charAt(place) == sign;
        }
        return isSecond && sign == (place + 1 < order.length() ? order.charAt(place + 1) : ';');
    }

    @Sentence(promise = 34, says = "A text consists of orders with a semicolon between two of them")
    static void errorAtSemicolons() {
        dueError(";", 0);
        dueError(";p1", 0);
        dueError("p1;;p1", 3);
        dueError("p1;p1;;", 6);
        dueError("p12;", 4);
        dueError("p1p1", 2);
        dueError("p12p1", 3);
        dueError("t1t1", 2);
        dueError("w0>1*1/0p1", 8);
        dueError("p1, p1", 2);
        dueError("p1 ;p1", 2);
        dueError("p1; p1", 3);
        dueError("p1\n", 2);
        PotatoStamps x = new PotatoStamps();
        type(x, "p1;p2");
        Check.due("one between two", 2, x.run());
        Check.due("no error", -1, x.errorPosition());
    }

    @Sentence(promise = 34, says = "Returns the error position, or -1 if that text had no error or run has not been called.")
    static void errorOfTheLatest() {
        PotatoStamps x = new PotatoStamps();
        Check.due("not called", -1, x.errorPosition());
        type(x, "xxx");
        Check.due("not called yet", -1, x.errorPosition());
        raises("an error", OUT_OF_RANGE, () -> x.run());
        Check.due("error", 0, x.errorPosition());
        runRaises(x, "p1;x");
        Check.due("a later one", 3, x.errorPosition());
        x.pass(1);
        type(x, "t1");
        Check.due("until run is called", 3, x.errorPosition());
        raises("refused", REFUSED, () -> x.run());
        Check.due("no error, but refused", -1, x.errorPosition());
        runRaises(x, "t");
        Check.due("error", 1, x.errorPosition());
        runRaises(x, "t6");
        Check.due("no error, but wrong", -1, x.errorPosition());
        runRaises(x, "");
        Check.due("empty", 0, x.errorPosition());
        runText(x, "p1");
        Check.due("no error", -1, x.errorPosition());
    }
}
