/** Promises 1 to 12: a test for each sentence that names a boundary. */
final class LettersBoundaryTest extends Calls {
    public static void main(String[] args) throws Exception {
        Sentences.runAll(LettersBoundaryTest.class);
    }

    @Sentence(promise = 1, says = "Creates a post office with 2.0f of ink and 3.0f metres of string alone, in the hour 0.")
    static void newObject() {
        PotatoStamps x = new PotatoStamps();
        Check.floats("ink", 2.0f, x.inkNow());
        for (int what = 0; what <= 14; what++) {
            Check.due("account " + what, 0, x.account(what));
        }
        for (int child = 0; child < 6; child++) {
            Check.due("letters read", 0, x.read(child));
            for (int hole = 0; hole < 5; hole++) {
                Check.due("pigeonhole", -1, holeOf(x, child, hole));
            }
        }
        Check.due("the reason", "none", refusalOf(x));
        Check.bits("what the string is enough for", 3.0f, x.stringFor(4, 3, 4));
        Check.due("all string", 0, x.parcel(0, 1, 4, 3, 4));
        Check.bits("no more string", 1.0f, metresOf(x));
    }

    @Sentence(promise = 1, says = "Hours are numbered from 0.")
    static void hoursFromNought() {
        PotatoStamps x = new PotatoStamps();
        Check.due("first hour", 0, x.account(0));
        x.pass(1);
        Check.due("second hour", 1, x.account(0));
    }

    @Sentence(promise = 2, says = "`tenths`: its length in tenths of a centimetre, 10 to 120, which is (0.1f times the tenths as a float)")
    static void crayonLengths() {
        for (int tenths = 10; tenths <= 120; tenths++) {
            PotatoStamps x = new PotatoStamps();
            Check.due("number", 0, x.crayon(tenths));
            Check.floats(tenths + " tenths", 0.1f * (float) tenths, x.crayonOf(0));
        }
    }

    @Sentence(promise = 2, says = "each with a length, a float, at first from 1.0f to 12.0f")
    static void crayonEnds() {
        PotatoStamps x = new PotatoStamps();
        x.crayon(10);
        x.crayon(120);
        Check.floats("shortest", 1.0f, x.crayonOf(0));
        Check.floats("longest", 12.0f, x.crayonOf(1));
    }

    @Sentence(promise = 2, says = "Throws `IllegalArgumentException` if the length is out of range")
    static void crayonOutOfRange() {
        PotatoStamps x = new PotatoStamps();
        raisesFor(OUT_OF_RANGE, n -> x.crayon(n), outside(10, 120));
        raisesFor(OUT_OF_RANGE, n -> x.crayon(n), 0, 1, -10);
        Check.due("crayons", 0, x.account(1));
    }

    @Sentence(promise = 2, says = "At most 8 crayons are kept, numbered from 0")
    static void eightCrayons() {
        PotatoStamps x = new PotatoStamps();
        for (int n = 0; n < 8; n++) {
            Check.due("number", n, x.crayon(10 + n));
        }
        for (int n = 0; n < 8; n++) {
            Check.floats("kept", 0.1f * (float) (10 + n), x.crayonOf(n));
        }
        x.letter(0, 1, 20, 0);
        Check.floats("used up", 0.0f, x.crayonOf(0));
        raises("used up, but kept", REFUSED, () -> x.crayon(10));
        Check.due("crayons", 8, x.account(1));
        x.undo();
        x.undo();
        Check.due("the last number again", 7, x.crayon(99));
        Check.floats("the last crayon", 0.1f * 99f, x.crayonOf(7));
    }

    @Sentence(promise = 2, says = "Throws `UnsupportedOperationException` if it is refused for reason 1; the reason is kept for refusal")
    static void ninthCrayon() {
        PotatoStamps x = new PotatoStamps();
        for (int n = 0; n < 8; n++) {
            x.crayon(120);
        }
        refuses("ninth", x, 1, 8, () -> x.crayon(10));
        refuses("ninth", x, 1, 8, () -> x.crayon(120));
    }

    @Sentence(promise = 3, says = "Throws `IndexOutOfBoundsException` if there is no such crayon")
    static void noSuchCrayon() {
        PotatoStamps x = new PotatoStamps();
        raisesFor(NO_SUCH, n -> x.crayonOf(n), 0, -1, 7, 8);
        for (int n = 0; n < 8; n++) {
            raisesFor(NO_SUCH, m -> x.crayonOf(m), n);
            x.crayon(10);
            Check.floats("last", 1.0f, x.crayonOf(n));
        }
        raisesFor(NO_SUCH, n -> x.crayonOf(n), outside(0, 7));
        x.undo();
        raisesFor(NO_SUCH, n -> x.crayonOf(n), 7);
    }

    @Sentence(promise = 4, says = "Throws `IndexOutOfBoundsException` if there is no such child or crayon")
    static void letterOfNobody() {
        PotatoStamps x = new PotatoStamps();
        raises("no crayon at all", NO_SUCH, () -> x.letter(0, 1, 1, 0));
        x.crayon(120);
        raisesFor(NO_SUCH, n -> x.letter(n, 1, 1, 0), outside(0, 5));
        raisesFor(NO_SUCH, n -> x.letter(0, n, 1, 0), outside(0, 5));
        raisesFor(NO_SUCH, n -> x.letter(n, n, 1, 0), outside(0, 5));
        raisesFor(NO_SUCH, n -> x.letter(0, 1, 1, n), outside(0, 0));
        raisesFor(NO_SUCH, n -> x.letter(0, 1, 1, n), 7, 8);
        Check.due("items", 0, x.account(2));
    }

    @Sentence(promise = 4, says = "There are the children 0 to 5.")
    static void letterChildren() {
        for (int from = 0; from < 6; from++) {
            for (int to = 0; to < 6; to++) {
                if (from != to) {
                    PotatoStamps x = new PotatoStamps();
                    x.crayon(10);
                    Check.due("letter", 0, x.letter(from, to, 1, 0));
                    Check.due("from", from, x.itemOf(0, 1));
                    Check.due("to", to, x.itemOf(0, 2));
                }
            }
        }
    }

    @Sentence(promise = 4, says = "Throws `IllegalArgumentException` if the number of words is out of range")
    static void letterWordsOutOfRange() {
        PotatoStamps x = new PotatoStamps();
        x.crayon(120);
        raisesFor(OUT_OF_RANGE, n -> x.letter(0, 1, n, 0), outside(1, 40));
        Check.floats("crayon", 12.0f, x.crayonOf(0));
    }

    @Sentence(promise = 4, says = "A letter has words, from 1 to 40")
    static void letterWords() {
        for (int words = 1; words <= 40; words++) {
            PotatoStamps x = new PotatoStamps();
            x.crayon(20);
            Check.due("letter", 0, x.letter(0, 1, words, 0));
            Check.due("words", words, x.itemOf(0, 3));
            Check.due("words of all", words, x.account(12));
        }
    }

    @Sentence(promise = 4, says = "A letter of words is written with a crayon that is at least (0.05f times the words as a float) long, and becomes so much shorter.")
    static void letterJustLongEnough() {
        for (int tenths = 10; tenths <= 20; tenths++) {
            PotatoStamps x = new PotatoStamps();
            x.crayon(tenths);
            Check.due("just long enough", 0, x.letter(0, 1, 2 * tenths, 0));
            Check.floats("used up", 0.0f, x.crayonOf(0));
        }
        PotatoStamps x = new PotatoStamps();
        x.crayon(57);
        float left = 0.1f * 57f;
        for (int words = 40; words > 0; words -= 3) {
            if (left >= 0.05f * (float) words) {
                left = left - 0.05f * (float) words;
                x.letter(0, 1, words, 0);
            }
            Check.floats("shorter", left, x.crayonOf(0));
        }
    }

    /** Where numbers would leave just enough, floats leave a bit less. */
    @Sentence(promise = 4, says = "3, the crayon is too short: the crayon;")
    static void letterJustTooShort() {
        int[][] cases = {{10, 2, 18}, {10, 7, 13}, {14, 2, 26}, {14, 4, 24}, {10, 13, 7}};
        for (int[] each : cases) {
            PotatoStamps x = new PotatoStamps();
            x.crayon(120);
            x.crayon(each[0]);
            x.letter(0, 1, each[1], 1);
            Check.due("a bit less", Float.floatToIntBits(0.05f * (float) each[2]) - 1L, Float.floatToIntBits(x.crayonOf(1)));
            refuses("too short", x, 3, 1, () -> x.letter(0, 1, each[2], 1));
            Check.due("one word less", 1, x.letter(0, 1, each[2] - 1, 1));
        }
        for (int crayon = 0; crayon < 8; crayon++) {
            PotatoStamps x = new PotatoStamps();
            for (int n = 0; n < 8; n++) {
                x.crayon(10);
            }
            int short1 = crayon;
            refuses("too short", x, 3, crayon, () -> x.letter(0, 1, 21, short1));
        }
    }

    @Sentence(promise = 4, says = "At most 20 items are made in all, numbered from 0; each is a letter, 0, or a parcel, 1, from a child to another one.")
    static void twentyLetters() {
        PotatoStamps x = new PotatoStamps();
        x.crayon(120);
        x.potato();
        for (int n = 0; n < 20; n++) {
            Check.due("number", n, n == 7 ? x.parcel(0, 2, 1, 1, 1) : x.letter(0, 1, 1, 0));
            Check.due("kind", n == 7 ? 1 : 0, x.itemOf(n, 0));
        }
        shelved(x, 3, 0);
        x.pass(QUIET_HOURS + 1);
        shelved(x, 19, 0);
        x.take(1);
        Check.due("one is eaten", 1, x.account(9));
        Check.due("one is taken", 1, x.account(8));
        raises("in all", REFUSED, () -> x.letter(0, 1, 1, 0));
        Check.due("items", 20, x.account(2));
    }

    @Sentence(promise = 4, says = "Throws `UnsupportedOperationException` if it is refused for reason 1, 2 or 3; the reason is kept for refusal")
    static void letterRefused() {
        PotatoStamps x = new PotatoStamps();
        x.crayon(120);
        x.crayon(10);
        refuses("short", x, 3, 1, () -> x.letter(4, 3, 21, 1));
        for (int child = 0; child < 6; child++) {
            int same = child;
            refuses("same", x, 2, child, () -> x.letter(same, same, 1, 0));
        }
        letterUntil(x, 19, 0);
        refuses("the twentieth to oneself", x, 2, 5, () -> x.letter(5, 5, 1, 0));
        Check.due("the twentieth", 19, x.letter(0, 5, 1, 0));
        refuses("the next", x, 1, 20, () -> x.letter(0, 5, 1, 0));
    }

    @Sentence(promise = 4, says = "Something is refused for the first that applies of the reasons that its method names, in the order in which it names them, with a detail:")
    static void letterReasonsInOrder() {
        PotatoStamps x = new PotatoStamps();
        x.crayon(120);
        x.crayon(10);
        refuses("same ahead of short", x, 2, 3, () -> x.letter(3, 3, 21, 1));
        letterUntil(x, 20, 0);
        refuses("full ahead of same", x, 1, 20, () -> x.letter(3, 3, 1, 0));
        refuses("full ahead of short", x, 1, 20, () -> x.letter(3, 4, 21, 1));
        refuses("full ahead of both", x, 1, 20, () -> x.letter(3, 3, 21, 1));
    }

    @Sentence(promise = 5, says = "Throws `IndexOutOfBoundsException` if there is no such child")
    static void parcelOfNobody() {
        PotatoStamps x = new PotatoStamps();
        raisesFor(NO_SUCH, n -> x.parcel(n, 1, 1, 1, 1), outside(0, 5));
        raisesFor(NO_SUCH, n -> x.parcel(0, n, 1, 1, 1), outside(0, 5));
        raisesFor(NO_SUCH, n -> x.parcel(n, n, 1, 1, 1), outside(0, 5));
        Check.due("items", 0, x.account(2));
    }

    @Sentence(promise = 5, says = "There are the children 0 to 5.")
    static void parcelChildren() {
        PotatoStamps x = new PotatoStamps();
        for (int child = 0; child < 3; child++) {
            x.parcel(child, 5 - child, 1, 1, 1);
            Check.due("from", child, x.itemOf(2 * child, 1));
            x.string(1);
            x.parcel(5 - child, child, 1, 1, 1);
            Check.due("to", child, x.itemOf(2 * child + 1, 2));
        }
    }

    @Sentence(promise = 5, says = "Throws `IllegalArgumentException` if a side is out of range")
    static void parcelSidesOutOfRange() {
        PotatoStamps x = new PotatoStamps();
        x.string(20);
        raisesFor(OUT_OF_RANGE, n -> x.parcel(0, 1, n, 1, 1), outside(1, 9));
        raisesFor(OUT_OF_RANGE, n -> x.parcel(0, 1, 1, n, 1), outside(1, 9));
        raisesFor(OUT_OF_RANGE, n -> x.parcel(0, 1, 1, 1, n), outside(1, 9));
        Check.due("items", 0, x.account(2));
        Check.bits("string", 24.0f, metresOf(x));
    }

    @Sentence(promise = 5, says = "a parcel has three sides, from 1 to 9")
    static void parcelSides() {
        PotatoStamps x = new PotatoStamps();
        x.string(20);
        int[][] cases = {{1, 1, 1}, {9, 1, 1}, {1, 9, 1}, {1, 1, 9}, {9, 9, 9}};
        for (int n = 0; n < cases.length; n++) {
            Check.due("parcel", n, x.parcel(0, 1, cases[n][0], cases[n][1], cases[n][2]));
            Check.due("sides", cases[n][0] + cases[n][1] + cases[n][2], x.itemOf(n, 3));
        }
    }

    @Sentence(promise = 5, says = "String just as long as what is needed is enough.")
    static void parcelJustEnoughString() {
        PotatoStamps x = new PotatoStamps();
        Check.due("3.0f of 3.0f", 0, x.parcel(0, 1, 4, 3, 4));
        x.string(4);
        Check.due("4.0f of 4.0f", 1, x.parcel(0, 1, 9, 9, 1));
        Check.bits("gone", 1.0f, metresOf(x));
        refuses("none left", x, 4, 0, () -> x.parcel(0, 1, 1, 1, 1));
    }

    /** Where numbers would leave just enough, floats leave a bit less. */
    @Sentence(promise = 5, says = "4, there is too little string: the metres that there are, rounded down;")
    static void parcelJustTooLittleString() {
        PotatoStamps x = new PotatoStamps();
        refuses("3.0f of 3.2f", x, 4, 3, () -> x.parcel(0, 1, 1, 1, 7));
        x.parcel(0, 1, 1, 1, 2);
        refuses("a bit less than 1.8f", x, 4, 1, () -> x.parcel(0, 1, 4, 1, 2));
        x.parcel(0, 1, 2, 2, 2);
        refuses("a bit less than 0.3f", x, 4, 0, () -> x.parcel(0, 1, 1, 1, 1));
        PotatoStamps y = new PotatoStamps();
        y.string(2);
        y.parcel(0, 1, 1, 1, 1);
        y.parcel(0, 1, 1, 1, 2);
        refuses("a bit less than 3.0f", y, 4, 2, () -> y.parcel(0, 1, 9, 9, 9));
        y.string(4);
        refuses("7.0f, as floats", y, 4, 7, () -> y.parcel(0, 1, 9, 9, 9));
        y.string(1);
        Check.due("7.2f of 8.0f", 2, y.parcel(0, 1, 9, 9, 9));
    }

    @Sentence(promise = 5, says = "metres of string, which are gone then.")
    static void parcelStringGone() {
        PotatoStamps x = new PotatoStamps();
        x.string(20);
        float left = 3.0f + 20f;
        for (int side = 1; side < 5; side++) {
            x.parcel(0, 1, side, 2, 2 * side - 1);
            left = left - 0.1f * (float) (2 * side + 4 + 8 * side - 4);
            Check.bits("left", left + 1f, metresOf(x));
        }
    }

    @Sentence(promise = 5, says = "At most 20 items are made in all, numbered from 0; each is a letter, 0, or a parcel, 1, from a child to another one.")
    static void twentyParcels() {
        PotatoStamps x = new PotatoStamps();
        x.string(20);
        for (int n = 0; n < 20; n++) {
            Check.due("number", n, x.parcel(0, 1, 1, 1, 1));
        }
        raises("in all", REFUSED, () -> x.parcel(0, 1, 1, 1, 1));
        Check.due("items", 20, x.account(2));
    }

    @Sentence(promise = 5, says = "Throws `UnsupportedOperationException` if it is refused for reason 1, 2 or 4; the reason is kept for refusal")
    static void parcelRefused() {
        PotatoStamps x = new PotatoStamps();
        refuses("string", x, 4, 3, () -> x.parcel(0, 1, 9, 9, 9));
        for (int child = 0; child < 6; child++) {
            int same = child;
            refuses("same", x, 2, child, () -> x.parcel(same, same, 1, 1, 1));
        }
        x.crayon(120);
        letterUntil(x, 20, 0);
        refuses("the next", x, 1, 20, () -> x.parcel(0, 1, 1, 1, 1));
    }

    @Sentence(promise = 5, says = "Something is refused for the first that applies of the reasons that its method names, in the order in which it names them, with a detail:")
    static void parcelReasonsInOrder() {
        PotatoStamps x = new PotatoStamps();
        refuses("same ahead of string", x, 2, 3, () -> x.parcel(3, 3, 9, 9, 9));
        x.crayon(120);
        letterUntil(x, 20, 0);
        refuses("full ahead of same", x, 1, 20, () -> x.parcel(3, 3, 1, 1, 1));
        refuses("full ahead of string", x, 1, 20, () -> x.parcel(3, 4, 9, 9, 9));
        refuses("full ahead of both", x, 1, 20, () -> x.parcel(3, 3, 9, 9, 9));
    }

    @Sentence(promise = 6, says = "Throws `IndexOutOfBoundsException` if there is no such item")
    static void noSuchItem() {
        PotatoStamps x = new PotatoStamps();
        raisesFor(NO_SUCH, n -> x.itemOf(n, 0), 0, -1, 19, 20);
        x.crayon(120);
        for (int n = 0; n < 20; n++) {
            raisesFor(NO_SUCH, m -> x.itemOf(m, 4), n);
            x.letter(0, 1, 1, 0);
            Check.due("last", 0, x.itemOf(n, 4));
        }
        raisesFor(NO_SUCH, n -> x.itemOf(n, 0), outside(0, 19));
        x.undo();
        raisesFor(NO_SUCH, n -> x.itemOf(n, 0), 19);
    }

    @Sentence(promise = 6, says = "Throws `IllegalArgumentException` if what is not from 0 to 6")
    static void itemOfWhat() {
        PotatoStamps x = new PotatoStamps();
        x.crayon(10);
        x.letter(4, 5, 3, 0);
        raisesFor(OUT_OF_RANGE, n -> x.itemOf(0, n), outside(0, 6));
        dueItem("each", x, 0, new int[] {0, 4, 5, 3, 0, -1, -1});
    }

    @Sentence(promise = 6, says = "5 for its pigeonhole, -1 if it is on no shelf, 6 for the potato with which it was stamped, -1 if it was not")
    static void itemOfHoleAndPotato() {
        PotatoStamps x = sample();
        int[] potatoes = {0, 0, 1, 1, 0, 1, -1, -1};
        for (int item = 0; item < 8; item++) {
            Check.due("pigeonhole of " + item, item == 3 || item == 4 ? 0 : -1, x.itemOf(item, 5));
            Check.due("potato of " + item, potatoes[item], x.itemOf(item, 6));
        }
        PotatoStamps y = new PotatoStamps();
        letters(y, 3);
        for (int n = 0; n < 5; n++) {
            y.potato();
        }
        for (int item = 0; item < 3; item++) {
            shelved(y, item, 4);
            Check.due("pigeonhole", item, y.itemOf(item, 5));
            Check.due("the last potato", 4, y.itemOf(item, 6));
        }
    }

    @Sentence(promise = 6, says = "An item is made, 0, as at first, stamped, 1, on a shelf, 2, taken, 3, or eaten, 4.")
    static void itemStates() {
        PotatoStamps x = new PotatoStamps();
        letters(x, 2);
        x.parcel(0, 1, 1, 1, 1);
        x.potato();
        for (int item = 0; item < 3; item++) {
            Check.due("made", 0, x.itemOf(item, 4));
            x.stamp(item, 0);
            Check.due("stamped", 1, x.itemOf(item, 4));
            x.shelve(item, item / 2);
            Check.due("on a shelf", 2, x.itemOf(item, 4));
        }
        int worst = x.prey();
        x.pass(QUIET_HOURS + 1);
        Check.due("eaten", 4, x.itemOf(worst, 4));
        Check.due("not eaten", 2, x.itemOf(1 - worst, 4));
        x.take(1);
        Check.due("taken", 3, x.itemOf(1 - worst, 4));
        Check.due("taken", 3, x.itemOf(2, 4));
        Check.due("still eaten", 4, x.itemOf(worst, 4));
    }

    @Sentence(promise = 7, says = "Throws `IndexOutOfBoundsException` if there is no such item")
    static void readsNoSuchItem() {
        PotatoStamps x = new PotatoStamps();
        raisesFor(NO_SUCH, n -> x.reads(n), 0, -1);
        letters(x, 20);
        raisesFor(NO_SUCH, n -> x.reads(n), outside(0, 19));
    }

    @Sentence(promise = 7, says = "Throws `NoSuchElementException` if it is a parcel")
    static void readsParcel() {
        PotatoStamps x = new PotatoStamps();
        letters(x, 1);
        x.parcel(0, 1, 1, 1, 1);
        raisesFor(NONE, n -> x.reads(n), 1);
        x.undo();
        x.letter(0, 1, 1, 0);
        x.reads(1);
    }

    @Sentence(promise = 7, says = "How well a letter can be read is (the length of the crayon behind its writing plus 1.0f) divided by ((the length of the crayon behind its writing plus 1.0f) plus (0.1f times its words as a float)).")
    static void readsEnds() {
        PotatoStamps x = new PotatoStamps();
        x.crayon(20);
        x.crayon(120);
        x.letter(0, 1, 40, 0);
        Check.bits("nothing left", 1.0f / (1.0f + 4.0f), x.reads(0));
        x.letter(0, 1, 1, 1);
        float left = 12.0f - 0.05f * 1f;
        Check.bits("best", (left + 1.0f) / ((left + 1.0f) + 0.1f * 1f), x.reads(1));
        for (int item = 2; item < 20; item++) {
            left = left - 0.05f * (float) (item + 1);
            x.letter(0, 1, item + 1, 1);
            float due = (left + 1.0f) / ((left + 1.0f) + 0.1f * (float) (item + 1));
            Check.bits("letter " + item, due, x.reads(item));
        }
    }

    @Sentence(promise = 7, says = "How well a letter can be read stays as it was when it was written.")
    static void readsStays() {
        PotatoStamps x = new PotatoStamps();
        x.crayon(20);
        x.potato();
        x.letter(0, 1, 10, 0);
        int bits = x.reads(0);
        x.letter(0, 1, 30, 0);
        Check.due("the crayon is shorter", bits, x.reads(0));
        shelved(x, 0, 0);
        Check.due("on a shelf", bits, x.reads(0));
        x.take(1);
        Check.due("taken", bits, x.reads(0));
    }

    @Sentence(promise = 8, says = "Throws `IllegalArgumentException` if a side is out of range")
    static void stringForOutOfRange() {
        PotatoStamps x = new PotatoStamps();
        raisesFor(OUT_OF_RANGE, n -> x.stringFor(n, 1, 1), outside(1, 9));
        raisesFor(OUT_OF_RANGE, n -> x.stringFor(1, n, 1), outside(1, 9));
        raisesFor(OUT_OF_RANGE, n -> x.stringFor(1, 1, n), outside(1, 9));
    }

    @Sentence(promise = 8, says = "A parcel needs (0.1f times (two times the first side, plus two times the second side, plus four times the third side, as a whole number, as a float)) metres of string")
    static void stringForAllSides() {
        for (int a = 1; a <= 9; a++) {
            PotatoStamps x = new PotatoStamps();
            for (int b = 1; b <= 9; b++) {
                for (int c = 1; c <= 9; c++) {
                    Check.bits("needs", 0.1f * (float) (2 * a + 2 * b + 4 * c), x.stringFor(a, b, c));
                }
            }
            Check.due("no change", 0, x.account(14));
        }
    }

    @Sentence(promise = 9, says = "Throws `IllegalArgumentException` if the number is out of range")
    static void stringOutOfRange() {
        PotatoStamps x = new PotatoStamps();
        raisesFor(OUT_OF_RANGE, n -> x.string(n), outside(1, 20));
        Check.bits("string", 4.0f, metresOf(x));
    }

    @Sentence(promise = 9, says = "`metres`: how many, 1 to 20")
    static void stringEnds() {
        PotatoStamps x = new PotatoStamps();
        Check.bits("1", 4.0f, x.string(1));
        Check.bits("20", 24.0f, x.string(20));
        x.parcel(0, 1, 1, 1, 1);
        Check.bits("with a fraction", 24.0f - 0.1f * 8f + 7f, x.string(7));
    }

    @Sentence(promise = 9, says = "Brings string; what would be more than 99.0f metres is not brought.")
    static void stringFull() {
        PotatoStamps x = new PotatoStamps();
        for (int n = 0; n < 4; n++) {
            x.string(20);
        }
        Check.bits("a metre less", 98.0f, x.string(15));
        Check.bits("just full", 99.0f, x.string(1));
        Check.bits("full", 99.0f, x.string(1));
        Check.due("each a change", 7, x.account(14));
        x.parcel(0, 1, 1, 1, 1);
        Check.bits("a part of a metre", 99.0f, x.string(1));
        x.parcel(0, 1, 1, 1, 1);
        Check.bits("a part of 20 metres", 99.0f, x.string(20));
        x.parcel(0, 1, 1, 1, 1);
        x.parcel(0, 1, 1, 1, 1);
        x.parcel(0, 1, 2, 1, 2);
        Check.bits("a bit less, as floats", 99.0f - 0.1f * 8f - 0.1f * 8f - 0.1f * 14f + 3f, x.string(3));
        x.string(1);
        x.parcel(0, 1, 9, 9, 4);
        x.parcel(0, 1, 1, 3, 2);
        x.parcel(0, 1, 9, 6, 3);
        Check.bits("a bit more, as floats", 99.0f, x.string(11));
    }

    @Sentence(promise = 9, says = "There are from 0.0f to 99.0f metres of string.")
    static void stringNone() {
        PotatoStamps x = new PotatoStamps();
        x.parcel(0, 1, 4, 3, 4);
        refuses("none", x, 4, 0, () -> x.parcel(0, 1, 1, 1, 1));
        Check.bits("from none", 20.0f, x.string(20));
    }

    @Sentence(promise = 10, says = "Throws `IndexOutOfBoundsException` if there is no such crayon")
    static void lettersOfNoCrayon() {
        PotatoStamps x = new PotatoStamps();
        raisesFor(NO_SUCH, n -> x.lettersOf(n, 1), 0, -1);
        x.crayon(10);
        raisesFor(NO_SUCH, n -> x.lettersOf(n, 1), outside(0, 0));
    }

    @Sentence(promise = 10, says = "Throws `IllegalArgumentException` if the number of words is out of range")
    static void lettersOfWords() {
        PotatoStamps x = new PotatoStamps();
        x.crayon(120);
        raisesFor(OUT_OF_RANGE, n -> x.lettersOf(0, n), outside(1, 40));
        Check.due("1", 239, x.lettersOf(0, 1));
        Check.due("40", 6, x.lettersOf(0, 40));
    }

    @Sentence(promise = 10, says = "Returns how many letters of some words can still be written with a crayon, if only such ones are written: letter after letter.")
    static void lettersOfEnds() {
        PotatoStamps x = new PotatoStamps();
        x.crayon(10);
        Check.due("just long enough", 1, x.lettersOf(0, 20));
        Check.due("too short", 0, x.lettersOf(0, 21));
        Check.due("9, not 10, as floats", 9, x.lettersOf(0, 2));
        Check.due("19, not 20, as floats", 19, x.lettersOf(0, 1));
        Check.due("nothing is written", 0, x.account(2));
        Check.floats("nothing is used", 1.0f, x.crayonOf(0));
        for (int left = 9; left > 0; left--) {
            Check.due("still", left, x.lettersOf(0, 2));
            x.letter(0, 1, 2, 0);
        }
        Check.due("none left", 0, x.lettersOf(0, 2));
        refuses("none indeed", x, 3, 0, () -> x.letter(0, 1, 2, 0));
        PotatoStamps y = new PotatoStamps();
        y.crayon(20);
        y.letter(0, 1, 40, 0);
        Check.due("used up", 0, y.lettersOf(0, 1));
    }

    @Sentence(promise = 10, says = "How many letters a crayon writes is told whatever number of items there can be.")
    static void lettersOfWithAllItems() {
        PotatoStamps x = new PotatoStamps();
        x.crayon(120);
        x.crayon(120);
        letterUntil(x, 20, 0);
        Check.due("more than items", 239, x.lettersOf(1, 1));
        Check.due("of the used one", 219, x.lettersOf(0, 1));
    }

    @Sentence(promise = 11, says = "Throws `IndexOutOfBoundsException` if there is no such crayon")
    static void lettersAgainNoCrayon() {
        PotatoStamps x = new PotatoStamps();
        raisesFor(NO_SUCH, n -> x.lettersAgain(n, 1), 0, -1);
        x.crayon(10);
        raisesFor(NO_SUCH, n -> x.lettersAgain(n, 1), outside(0, 0));
    }

    @Sentence(promise = 11, says = "Throws `IllegalArgumentException` if the number of words is out of range")
    static void lettersAgainWords() {
        PotatoStamps x = new PotatoStamps();
        x.crayon(120);
        raisesFor(OUT_OF_RANGE, n -> x.lettersAgain(0, n), outside(1, 40));
        Check.due("1", 239, x.lettersAgain(0, 1));
        Check.due("40", 6, x.lettersAgain(0, 40));
    }

    @Sentence(promise = 11, says = "Returns the same by a second way")
    static void lettersAgainSame() {
        for (int tenths = 10; tenths <= 120; tenths += tenths < 24 ? 1 : 24) {
            PotatoStamps x = new PotatoStamps();
            x.crayon(tenths);
            for (int words = 1; words <= 40; words++) {
                Check.due(tenths + " tenths, " + words + " words", x.lettersOf(0, words), x.lettersAgain(0, words));
            }
            x.letter(0, 1, 20, 0);
            Check.due("the rest", x.lettersOf(0, 1), x.lettersAgain(0, 1));
        }
        PotatoStamps x = new PotatoStamps();
        x.crayon(120);
        x.crayon(10);
        Check.due("many", 239, x.lettersAgain(0, 1));
        Check.due("fewer behind many", 1, x.lettersAgain(1, 20));
        Check.due("none behind many", 0, x.lettersAgain(1, 21));
        letterUntil(x, 20, 0);
        Check.due("whatever number of items", 219, x.lettersAgain(0, 1));
    }

    @Sentence(promise = 12, says = "Throws `NoSuchElementException` if there is no such place")
    static void rankedNoPlace() {
        PotatoStamps x = new PotatoStamps();
        raisesFor(NONE, n -> x.ranked(n), 0, -1);
        x.parcel(0, 1, 1, 1, 1);
        raisesFor(NONE, n -> x.ranked(n), 0);
        letters(x, 1);
        Check.due("the only one", 1, x.ranked(0));
        raisesFor(NONE, n -> x.ranked(n), outside(0, 0));
        letterUntil(x, 20, 0);
        x.ranked(18);
        raisesFor(NONE, n -> x.ranked(n), outside(0, 18));
    }

    @Sentence(promise = 12, says = "Returns a letter by how well it can be read, the best one first, of several the one with the lowest number, whatever its state.")
    static void rankedTiesAndStates() {
        PotatoStamps x = new PotatoStamps();
        for (int n = 0; n < 5; n++) {
            x.crayon(50);
            x.potato();
        }
        for (int n = 0; n < 5; n++) {
            x.letter(0, n + 1, 20, n);
        }
        x.letter(0, 1, 1, 4);
        x.letter(0, 1, 40, 4);
        int[] due = {5, 0, 1, 2, 3, 4, 6};
        for (int place = 0; place < 7; place++) {
            Check.due("all made", due[place], x.ranked(place));
        }
        shelved(x, 1, 1);
        x.pass(QUIET_HOURS + 1);
        shelved(x, 2, 2);
        x.take(3);
        shelved(x, 3, 3);
        x.stamp(4, 4);
        Check.due("signs", "eths", "" + x.sign(1) + x.sign(2) + x.sign(3) + x.sign(4));
        for (int place = 0; place < 7; place++) {
            Check.due("whatever its state", due[place], x.ranked(place));
        }
    }
}
